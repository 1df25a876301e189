abbrev wlX9_forget (cI cZ cO : ClassId) (q_t q_t_wanted q_t_bestRow q_t_row : Nat) (t_best : Int32) (t_limit : Int32) (t_wanted : Nat → Int32) : va_W := [(q_t, .inr (8, [.ref q_t_wanted, .int t_best, .ref q_t_bestRow, .ref q_t_row, .int t_limit])), (q_t_wanted, .inl (cI, 4, .inl t_wanted))]
def fX9_forget_B2  (k2 : Int32 → (Nat → Int32) → Option ((Nat → Int32))) (r2 : Int32 → (Nat → Int32) → Option ((Nat → Int32))) (x1_1 : Int32) (t_wanted_2 : Nat → Int32) : Option ((Nat → Int32)) :=
  (if 4 ≤ x1_1 then k2 x1_1 t_wanted_2
 else nh_chk (nh_in x1_1 4) (nh_let (α := Nat → Int32) (upd t_wanted_2 (Int32.toNatClampNeg x1_1) (-9)) (fun t_wanted_7 => nh_let (α := Int32) (x1_1 + 1) (fun x1_8 => r2 x1_8 t_wanted_7))))
def fX9_forget_L2  (k2 : Int32 → (Nat → Int32) → Option ((Nat → Int32))) : Nat → Int32 → (Nat → Int32) → Option ((Nat → Int32))
  | 0 => fun _ _ => none
  | n + 1 => fX9_forget_B2  k2 (fX9_forget_L2  k2 n)
def fX9_forget (F : Nat) (t_wanted : Nat → Int32) : Option ((Nat → Int32)) :=
  fX9_forget_L2  (fun x1_3 t_wanted_4 => some t_wanted_4) F 0 t_wanted
set_option maxHeartbeats 4000000 in
set_option maxRecDepth 100000 in
theorem kX9_forget (F : Nat) (l : Launch) (D : va_G) (cI cZ cO : ClassId) (sz : Nat) (q_t q_t_wanted q_t_bestRow q_t_row : Nat) (t_best : Int32) (t_limit : Int32) (t_wanted : Nat → Int32)  (o_t_wanted : Nat → Int32) (h : fX9_forget F t_wanted = some o_t_wanted) : Met l yX9_forget (nh_w (.code yX9_forget cX9_forget 2 none)) (nh_rm 0) (nh_Pc D cI cZ cO (wlX9_forget cI cZ cO q_t q_t_wanted q_t_bestRow q_t_row t_best t_limit t_wanted) [.ref q_t] sz) ((nh_Qv D (wlX9_forget cI cZ cO q_t q_t_wanted q_t_bestRow q_t_row t_best t_limit o_t_wanted)) (va_A (wlX9_forget cI cZ cO q_t q_t_wanted q_t_bestRow q_t_row t_best t_limit t_wanted) sz)) 0 0 (va_A (wlX9_forget cI cZ cO q_t q_t_wanted q_t_bestRow q_t_row t_best t_limit t_wanted) sz) := by
  unfold fX9_forget at h
  refine nh_met (cc := cX9_forget) (maxL := 2) (ret := none) (nh_Qv D (wlX9_forget cI cZ cO q_t q_t_wanted q_t_bestRow q_t_row t_best t_limit o_t_wanted)) (by decide) rfl (Nat.le_of_ble_eq_true rfl) ?_
  intro p e s m args below meth c A H locs ls hx hb hml hr hown hts hlocks hinit hP hK hN hD hA hS hl
  have hl : lv_has ls 2 [(0, .ref q_t)] := hl
  have hts : ∀ w ∈ nh_words, w.before args s = true := fun w h => hts w (List.mem_cons_of_mem _ h)
  refine lv_iconst (v := 0) hx hb dX9_forget_0 (by decide) ?_
  refine lv_istore_n (lv' := [(1, .int 0), (0, .ref q_t)]) hx hb dX9_forget_1 rfl hl (by decide) rfl (fun ls hl => ?_)
  have L2 : ∀ (k2 : Int32 → (Nat → Int32) → Option ((Nat → Int32))), (∀ (x1_3 : Int32) (t_wanted_4 : Nat → Int32) (H : Heap) (locs : List Loc) (ls : Array Slot), va_P D vwCl (wlX9_forget cI cZ cO q_t q_t_wanted q_t_bestRow q_t_row t_best t_limit t_wanted_4) H → va_D A (wlX9_forget cI cZ cO q_t q_t_wanted q_t_bestRow q_t_row t_best t_limit t_wanted_4) → va_S A s.heap H locs → lv_has ls 2 [(0, .ref q_t), (1, .int x1_3)] → k2 x1_3 t_wanted_4 = some o_t_wanted → W p l e (nh_rm 0) s m args below meth c H locs 0 0 (MQ below ((nh_Qv D (wlX9_forget cI cZ cO q_t q_t_wanted q_t_bestRow q_t_row t_best t_limit o_t_wanted)) A) args s 0 0 A) (F0 m 21 ls [])) → ∀ (n : Nat) (x1_1 : Int32) (t_wanted_2 : Nat → Int32) (H : Heap) (locs : List Loc) (ls : Array Slot), va_P D vwCl (wlX9_forget cI cZ cO q_t q_t_wanted q_t_bestRow q_t_row t_best t_limit t_wanted_2) H → va_D A (wlX9_forget cI cZ cO q_t q_t_wanted q_t_bestRow q_t_row t_best t_limit t_wanted_2) → va_S A s.heap H locs → lv_has ls 2 [(0, .ref q_t), (1, .int x1_1)] → fX9_forget_L2  k2 n x1_1 t_wanted_2 = some o_t_wanted → W p l e (nh_rm 0) s m args below meth c H locs 0 0 (MQ below ((nh_Qv D (wlX9_forget cI cZ cO q_t q_t_wanted q_t_bestRow q_t_row t_best t_limit o_t_wanted)) A) args s 0 0 A) (F0 m 2 ls []) := by
    intro k2 hk2 n
    induction n with
    | zero => intro x1_1 t_wanted_2 H locs ls hP hD hS hl h; exact (nh_none h).elim
    | succ n2 ih2 =>
      intro x1_1 t_wanted_2 H locs ls hP hD hS hl h
      replace h : fX9_forget_B2  k2 (fX9_forget_L2  k2 n2) x1_1 t_wanted_2 = some o_t_wanted := h
      unfold fX9_forget_B2 at h
      refine lv_iload_n hx hb dX9_forget_2 rfl (lv_at hl 1 rfl) ?_
      refine lv_iconst (v := 4) hx hb dX9_forget_3 (by decide) ?_
      refine lv_icmp_ge (tgt := 21) hx hb dX9_forget_4 (by decide) (fun c5 => ?_) (fun c5 => ?_)
      · replace h := nh_t h c5
        exact hk2 x1_1 t_wanted_2 H locs ls hP hD hS (lv_sub hl [0, 1] rfl) h
      · replace h := nh_f h c5
        refine lv_aload_n hx hb dX9_forget_7 rfl (lv_at hl 0 rfl) ?_
        refine va_get (D := D) (ci := 8) (v := .ref q_t_wanted) (C := RX9) (T := TX9) (N := 5) hx hb hts nhu_X9 hown hK hP 0 rfl rfl 0 (by decide) (hts _ nhw_298) (fun _ h9 => h9) rfl dX9_forget_8 ?_
        refine lv_iload_n hx hb dX9_forget_11 rfl (lv_at hl 1 rfl) ?_
        refine lv_bipush (v := (-9)) hx hb dX9_forget_12 (by decide) ?_
        obtain ⟨z6, h⟩ := nh_chk_some h
        refine va_iast hx hb hK hP hD hS 1 0 rfl rfl (nh_in_in z6) dX9_forget_14 (fun H locs hP hD hS => ?_)
        obtain ⟨t_wanted_7, et_wanted_7⟩ : ∃ y : Nat → Int32, y = upd t_wanted_2 (Int32.toNatClampNeg x1_1) (-9) := ⟨_, rfl⟩
        replace h := nh_to h et_wanted_7
        have hP : va_P D vwCl (wlX9_forget cI cZ cO q_t q_t_wanted q_t_bestRow q_t_row t_best t_limit t_wanted_7) H := by rw [et_wanted_7]; exact hP
        have hD : va_D A (wlX9_forget cI cZ cO q_t q_t_wanted q_t_bestRow q_t_row t_best t_limit t_wanted_7) := by rw [et_wanted_7]; exact hD
        obtain ⟨x1_8, ex1_8⟩ : ∃ y : Int32, y = x1_1 + 1 := ⟨_, rfl⟩
        replace h := nh_to h ex1_8
        refine lv_iinc (v := x1_8) (lv' := [(1, .int x1_8), (0, .ref q_t)]) hx hb dX9_forget_15 hl (k := 1) rfl (by rw [ex1_8]; rfl) (by decide) rfl (fun ls hl => ?_)
        refine lv_goto (tgt := 2) hx hb dX9_forget_18 (by decide) ?_
        exact ih2 x1_8 t_wanted_7 H locs ls hP hD hS (lv_sub hl [1, 0] rfl) h
  refine L2 _ (fun x1_3 t_wanted_4 H locs ls hP hD hS hl h => ?_) _ 0 t_wanted H locs ls hP hD hS (lv_sub hl [1, 0] rfl) h
  replace h := nh_i1 h
  exact nh_rv hx hb hr hlocks (by rw [← h]; exact hP) hS dX9_forget_21
abbrev wlX9_howMany (cI cZ cO : ClassId) (q_t q_a1 q_t_wanted q_t_bestRow q_t_row q_a1_held q_a1_known q_a1_worths : Nat) (t_best : Int32) (t_limit : Int32) (t_wanted : Nat → Int32) (a1_count : Int32) : va_W := [(q_t, .inr (8, [.ref q_t_wanted, .int t_best, .ref q_t_bestRow, .ref q_t_row, .int t_limit])), (q_t_wanted, .inl (cI, 4, .inl t_wanted)), (q_a1, .inr (1, [.int a1_count, .ref q_a1_held, .ref q_a1_known, .ref q_a1_worths]))]
def fX9_howMany_B4 (t_wanted : Nat → Int32) (a1_count : Int32) (k4 : Int32 → Int32 → Option (Int32)) (r4 : Int32 → Int32 → Option (Int32)) (x2_1 : Int32) (x3_2 : Int32) : Option (Int32) :=
  (if a1_count ≤ x3_2 then k4 x2_1 x3_2
 else nh_chk (nh_in x3_2 4) ((if (t_wanted (Int32.toNatClampNeg x3_2)) = (-9) then nh_let (α := Int32) (x3_2 + 1) (fun x3_8 => r4 x2_1 x3_8)
 else nh_let (α := Int32) (x2_1 + 1) (fun x2_9 => nh_let (α := Int32) (x3_2 + 1) (fun x3_10 => r4 x2_9 x3_10)))))
def fX9_howMany_L4 (t_wanted : Nat → Int32) (a1_count : Int32) (k4 : Int32 → Int32 → Option (Int32)) : Nat → Int32 → Int32 → Option (Int32)
  | 0 => fun _ _ => none
  | n + 1 => fX9_howMany_B4 t_wanted a1_count k4 (fX9_howMany_L4 t_wanted a1_count k4 n)
def fX9_howMany (F : Nat) (t_wanted : Nat → Int32) (a1_count : Int32) : Option (Int32) :=
  fX9_howMany_L4 t_wanted a1_count (fun x2_3 x3_4 => some x2_3) F 0 0
set_option maxHeartbeats 4000000 in
set_option maxRecDepth 100000 in
theorem kX9_howMany (F : Nat) (l : Launch) (D : va_G) (cI cZ cO : ClassId) (sz : Nat) (q_t q_a1 q_t_wanted q_t_bestRow q_t_row q_a1_held q_a1_known q_a1_worths : Nat) (t_best : Int32) (t_limit : Int32) (t_wanted : Nat → Int32) (a1_count : Int32)  (o_r : Int32) (h : fX9_howMany F t_wanted a1_count = some o_r) : Met l yX9_howMany (nh_w (.code yX9_howMany cX9_howMany 4 (some .int))) (nh_rm 0) (nh_Pc D cI cZ cO (wlX9_howMany cI cZ cO q_t q_a1 q_t_wanted q_t_bestRow q_t_row q_a1_held q_a1_known q_a1_worths t_best t_limit t_wanted a1_count) [.ref q_t, .ref q_a1] sz) ((nh_Qi D (wlX9_howMany cI cZ cO q_t q_a1 q_t_wanted q_t_bestRow q_t_row q_a1_held q_a1_known q_a1_worths t_best t_limit t_wanted a1_count) o_r) (va_A (wlX9_howMany cI cZ cO q_t q_a1 q_t_wanted q_t_bestRow q_t_row q_a1_held q_a1_known q_a1_worths t_best t_limit t_wanted a1_count) sz)) 0 0 (va_A (wlX9_howMany cI cZ cO q_t q_a1 q_t_wanted q_t_bestRow q_t_row q_a1_held q_a1_known q_a1_worths t_best t_limit t_wanted a1_count) sz) := by
  unfold fX9_howMany at h
  refine nh_met (cc := cX9_howMany) (maxL := 4) (ret := (some .int)) (nh_Qi D (wlX9_howMany cI cZ cO q_t q_a1 q_t_wanted q_t_bestRow q_t_row q_a1_held q_a1_known q_a1_worths t_best t_limit t_wanted a1_count) o_r) (by decide) rfl (Nat.le_of_ble_eq_true rfl) ?_
  intro p e s m args below meth c A H locs ls hx hb hml hr hown hts hlocks hinit hP hK hN hD hA hS hl
  have hl : lv_has ls 4 [(0, .ref q_t), (1, .ref q_a1)] := hl
  have hts : ∀ w ∈ nh_words, w.before args s = true := fun w h => hts w (List.mem_cons_of_mem _ h)
  refine lv_iconst (v := 0) hx hb dX9_howMany_0 (by decide) ?_
  refine lv_istore_n (lv' := [(2, .int 0), (0, .ref q_t), (1, .ref q_a1)]) hx hb dX9_howMany_1 rfl hl (by decide) rfl (fun ls hl => ?_)
  refine lv_iconst (v := 0) hx hb dX9_howMany_2 (by decide) ?_
  refine lv_istore_n (lv' := [(3, .int 0), (2, .int 0), (0, .ref q_t), (1, .ref q_a1)]) hx hb dX9_howMany_3 rfl hl (by decide) rfl (fun ls hl => ?_)
  have L4 : ∀ (k4 : Int32 → Int32 → Option (Int32)), (∀ (x2_3 : Int32) (x3_4 : Int32) (H : Heap) (locs : List Loc) (ls : Array Slot), va_P D vwCl (wlX9_howMany cI cZ cO q_t q_a1 q_t_wanted q_t_bestRow q_t_row q_a1_held q_a1_known q_a1_worths t_best t_limit t_wanted a1_count) H → va_D A (wlX9_howMany cI cZ cO q_t q_a1 q_t_wanted q_t_bestRow q_t_row q_a1_held q_a1_known q_a1_worths t_best t_limit t_wanted a1_count) → va_S A s.heap H locs → lv_has ls 4 [(0, .ref q_t), (1, .ref q_a1), (2, .int x2_3), (3, .int x3_4)] → k4 x2_3 x3_4 = some o_r → W p l e (nh_rm 0) s m args below meth c H locs 0 0 (MQ below ((nh_Qi D (wlX9_howMany cI cZ cO q_t q_a1 q_t_wanted q_t_bestRow q_t_row q_a1_held q_a1_known q_a1_worths t_best t_limit t_wanted a1_count) o_r) A) args s 0 0 A) (F0 m 32 ls [])) → ∀ (n : Nat) (x2_1 : Int32) (x3_2 : Int32) (H : Heap) (locs : List Loc) (ls : Array Slot), va_P D vwCl (wlX9_howMany cI cZ cO q_t q_a1 q_t_wanted q_t_bestRow q_t_row q_a1_held q_a1_known q_a1_worths t_best t_limit t_wanted a1_count) H → va_D A (wlX9_howMany cI cZ cO q_t q_a1 q_t_wanted q_t_bestRow q_t_row q_a1_held q_a1_known q_a1_worths t_best t_limit t_wanted a1_count) → va_S A s.heap H locs → lv_has ls 4 [(0, .ref q_t), (1, .ref q_a1), (2, .int x2_1), (3, .int x3_2)] → fX9_howMany_L4 t_wanted a1_count k4 n x2_1 x3_2 = some o_r → W p l e (nh_rm 0) s m args below meth c H locs 0 0 (MQ below ((nh_Qi D (wlX9_howMany cI cZ cO q_t q_a1 q_t_wanted q_t_bestRow q_t_row q_a1_held q_a1_known q_a1_worths t_best t_limit t_wanted a1_count) o_r) A) args s 0 0 A) (F0 m 4 ls []) := by
    intro k4 hk4 n
    induction n with
    | zero => intro x2_1 x3_2 H locs ls hP hD hS hl h; exact (nh_none h).elim
    | succ n4 ih4 =>
      intro x2_1 x3_2 H locs ls hP hD hS hl h
      replace h : fX9_howMany_B4 t_wanted a1_count k4 (fX9_howMany_L4 t_wanted a1_count k4 n4) x2_1 x3_2 = some o_r := h
      unfold fX9_howMany_B4 at h
      refine lv_iload_n hx hb dX9_howMany_4 rfl (lv_at hl 3 rfl) ?_
      refine lv_aload_n hx hb dX9_howMany_5 rfl (lv_at hl 1 rfl) ?_
      refine va_get (D := D) (ci := 1) (v := .int a1_count) (C := RX1) (T := TX1) (N := 4) hx hb hts nhu_X1 hown hK hP 2 rfl rfl 0 (by decide) (hts _ nhw_294) (fun _ h9 => h9) rfl dX9_howMany_6 ?_
      refine lv_icmp_ge (tgt := 32) hx hb dX9_howMany_9 (by decide) (fun c5 => ?_) (fun c5 => ?_)
      · replace h := nh_t h c5
        exact hk4 x2_1 x3_2 H locs ls hP hD hS (lv_sub hl [0, 1, 2, 3] rfl) h
      · replace h := nh_f h c5
        refine lv_aload_n hx hb dX9_howMany_12 rfl (lv_at hl 0 rfl) ?_
        refine va_get (D := D) (ci := 8) (v := .ref q_t_wanted) (C := RX9) (T := TX9) (N := 5) hx hb hts nhu_X9 hown hK hP 0 rfl rfl 0 (by decide) (hts _ nhw_298) (fun _ h9 => h9) rfl dX9_howMany_13 ?_
        refine lv_iload_n hx hb dX9_howMany_16 rfl (lv_at hl 3 rfl) ?_
        obtain ⟨z6, h⟩ := nh_chk_some h
        refine va_iald hx hb hK hP 1 0 rfl rfl (nh_in_in z6) dX9_howMany_17 ?_
        refine lv_bipush (v := (-9)) hx hb dX9_howMany_18 (by decide) ?_
        refine lv_icmp_eq (tgt := 26) hx hb dX9_howMany_20 (by decide) (fun c7 => ?_) (fun c7 => ?_)
        · replace h := nh_t h c7
          obtain ⟨x3_8, ex3_8⟩ : ∃ y : Int32, y = x3_2 + 1 := ⟨_, rfl⟩
          replace h := nh_to h ex3_8
          refine lv_iinc (v := x3_8) (lv' := [(3, .int x3_8), (0, .ref q_t), (1, .ref q_a1), (2, .int x2_1)]) hx hb dX9_howMany_26 hl (k := 3) rfl (by rw [ex3_8]; rfl) (by decide) rfl (fun ls hl => ?_)
          refine lv_goto (tgt := 4) hx hb dX9_howMany_29 (by decide) ?_
          exact ih4 x2_1 x3_8 H locs ls hP hD hS (lv_sub hl [1, 2, 3, 0] rfl) h
        · replace h := nh_f h c7
          obtain ⟨x2_9, ex2_9⟩ : ∃ y : Int32, y = x2_1 + 1 := ⟨_, rfl⟩
          replace h := nh_to h ex2_9
          refine lv_iinc (v := x2_9) (lv' := [(2, .int x2_9), (0, .ref q_t), (1, .ref q_a1), (3, .int x3_2)]) hx hb dX9_howMany_23 hl (k := 2) rfl (by rw [ex2_9]; rfl) (by decide) rfl (fun ls hl => ?_)
          obtain ⟨x3_10, ex3_10⟩ : ∃ y : Int32, y = x3_2 + 1 := ⟨_, rfl⟩
          replace h := nh_to h ex3_10
          refine lv_iinc (v := x3_10) (lv' := [(3, .int x3_10), (2, .int x2_9), (0, .ref q_t), (1, .ref q_a1)]) hx hb dX9_howMany_26 hl (k := 3) rfl (by rw [ex3_10]; rfl) (by decide) rfl (fun ls hl => ?_)
          refine lv_goto (tgt := 4) hx hb dX9_howMany_29 (by decide) ?_
          exact ih4 x2_9 x3_10 H locs ls hP hD hS (lv_sub hl [2, 3, 1, 0] rfl) h
  refine L4 _ (fun x2_3 x3_4 H locs ls hP hD hS hl h => ?_) _ 0 0 H locs ls hP hD hS (lv_sub hl [2, 3, 1, 0] rfl) h
  refine lv_iload_n hx hb dX9_howMany_32 rfl (lv_at hl 2 rfl) ?_
  replace h := nh_i1 h
  exact nh_ri hx hb hr hlocks h hP hS dX9_howMany_33
abbrev wlX9_met (cI cZ cO : ClassId) (q_t q_a1 q_t_wanted q_t_bestRow q_t_row q_a1_held q_a1_known q_a1_worths : Nat) (t_best : Int32) (t_limit : Int32) (t_wanted : Nat → Int32) (a1_count : Int32) (a1_held : Nat → Int32) : va_W := [(q_t, .inr (8, [.ref q_t_wanted, .int t_best, .ref q_t_bestRow, .ref q_t_row, .int t_limit])), (q_t_wanted, .inl (cI, 4, .inl t_wanted)), (q_a1, .inr (1, [.int a1_count, .ref q_a1_held, .ref q_a1_known, .ref q_a1_worths])), (q_a1_held, .inl (cI, 4, .inl a1_held))]
def fX9_met_B2 (t_wanted : Nat → Int32) (a1_count : Int32) (a1_held : Nat → Int32) (k2 : Int32 → Option (Int32)) (r2 : Int32 → Option (Int32)) (x2_1 : Int32) : Option (Int32) :=
  (if a1_count ≤ x2_1 then k2 x2_1
 else nh_chk (nh_in x2_1 4) ((if (t_wanted (Int32.toNatClampNeg x2_1)) = (-9) then nh_let (α := Int32) (x2_1 + 1) (fun x2_6 => r2 x2_6)
 else nh_chk (nh_in x2_1 4) (nh_chk (nh_in x2_1 4) ((if (t_wanted (Int32.toNatClampNeg x2_1)) = (a1_held (Int32.toNatClampNeg x2_1)) then nh_let (α := Int32) (x2_1 + 1) (fun x2_10 => r2 x2_10)
 else some 0))))))
def fX9_met_L2 (t_wanted : Nat → Int32) (a1_count : Int32) (a1_held : Nat → Int32) (k2 : Int32 → Option (Int32)) : Nat → Int32 → Option (Int32)
  | 0 => fun _ => none
  | n + 1 => fX9_met_B2 t_wanted a1_count a1_held k2 (fX9_met_L2 t_wanted a1_count a1_held k2 n)
def fX9_met (F : Nat) (t_wanted : Nat → Int32) (a1_count : Int32) (a1_held : Nat → Int32) : Option (Int32) :=
  fX9_met_L2 t_wanted a1_count a1_held (fun x2_2 => some 1) F 0
set_option maxHeartbeats 4000000 in
set_option maxRecDepth 100000 in
theorem kX9_met (F : Nat) (l : Launch) (D : va_G) (cI cZ cO : ClassId) (sz : Nat) (q_t q_a1 q_t_wanted q_t_bestRow q_t_row q_a1_held q_a1_known q_a1_worths : Nat) (t_best : Int32) (t_limit : Int32) (t_wanted : Nat → Int32) (a1_count : Int32) (a1_held : Nat → Int32)  (o_r : Int32) (h : fX9_met F t_wanted a1_count a1_held = some o_r) : Met l yX9_met (nh_w (.code yX9_met cX9_met 3 (some .boolean))) (nh_rm 0) (nh_Pc D cI cZ cO (wlX9_met cI cZ cO q_t q_a1 q_t_wanted q_t_bestRow q_t_row q_a1_held q_a1_known q_a1_worths t_best t_limit t_wanted a1_count a1_held) [.ref q_t, .ref q_a1] sz) ((nh_Qi D (wlX9_met cI cZ cO q_t q_a1 q_t_wanted q_t_bestRow q_t_row q_a1_held q_a1_known q_a1_worths t_best t_limit t_wanted a1_count a1_held) o_r) (va_A (wlX9_met cI cZ cO q_t q_a1 q_t_wanted q_t_bestRow q_t_row q_a1_held q_a1_known q_a1_worths t_best t_limit t_wanted a1_count a1_held) sz)) 0 0 (va_A (wlX9_met cI cZ cO q_t q_a1 q_t_wanted q_t_bestRow q_t_row q_a1_held q_a1_known q_a1_worths t_best t_limit t_wanted a1_count a1_held) sz) := by
  unfold fX9_met at h
  refine nh_met (cc := cX9_met) (maxL := 3) (ret := (some .boolean)) (nh_Qi D (wlX9_met cI cZ cO q_t q_a1 q_t_wanted q_t_bestRow q_t_row q_a1_held q_a1_known q_a1_worths t_best t_limit t_wanted a1_count a1_held) o_r) (by decide) rfl (Nat.le_of_ble_eq_true rfl) ?_
  intro p e s m args below meth c A H locs ls hx hb hml hr hown hts hlocks hinit hP hK hN hD hA hS hl
  have hl : lv_has ls 3 [(0, .ref q_t), (1, .ref q_a1)] := hl
  have hts : ∀ w ∈ nh_words, w.before args s = true := fun w h => hts w (List.mem_cons_of_mem _ h)
  refine lv_iconst (v := 0) hx hb dX9_met_0 (by decide) ?_
  refine lv_istore_n (lv' := [(2, .int 0), (0, .ref q_t), (1, .ref q_a1)]) hx hb dX9_met_1 rfl hl (by decide) rfl (fun ls hl => ?_)
  have L2 : ∀ (k2 : Int32 → Option (Int32)), (∀ (x2_2 : Int32) (H : Heap) (locs : List Loc) (ls : Array Slot), va_P D vwCl (wlX9_met cI cZ cO q_t q_a1 q_t_wanted q_t_bestRow q_t_row q_a1_held q_a1_known q_a1_worths t_best t_limit t_wanted a1_count a1_held) H → va_D A (wlX9_met cI cZ cO q_t q_a1 q_t_wanted q_t_bestRow q_t_row q_a1_held q_a1_known q_a1_worths t_best t_limit t_wanted a1_count a1_held) → va_S A s.heap H locs → lv_has ls 3 [(0, .ref q_t), (1, .ref q_a1), (2, .int x2_2)] → k2 x2_2 = some o_r → W p l e (nh_rm 0) s m args below meth c H locs 0 0 (MQ below ((nh_Qi D (wlX9_met cI cZ cO q_t q_a1 q_t_wanted q_t_bestRow q_t_row q_a1_held q_a1_known q_a1_worths t_best t_limit t_wanted a1_count a1_held) o_r) A) args s 0 0 A) (F0 m 44 ls [])) → ∀ (n : Nat) (x2_1 : Int32) (H : Heap) (locs : List Loc) (ls : Array Slot), va_P D vwCl (wlX9_met cI cZ cO q_t q_a1 q_t_wanted q_t_bestRow q_t_row q_a1_held q_a1_known q_a1_worths t_best t_limit t_wanted a1_count a1_held) H → va_D A (wlX9_met cI cZ cO q_t q_a1 q_t_wanted q_t_bestRow q_t_row q_a1_held q_a1_known q_a1_worths t_best t_limit t_wanted a1_count a1_held) → va_S A s.heap H locs → lv_has ls 3 [(0, .ref q_t), (1, .ref q_a1), (2, .int x2_1)] → fX9_met_L2 t_wanted a1_count a1_held k2 n x2_1 = some o_r → W p l e (nh_rm 0) s m args below meth c H locs 0 0 (MQ below ((nh_Qi D (wlX9_met cI cZ cO q_t q_a1 q_t_wanted q_t_bestRow q_t_row q_a1_held q_a1_known q_a1_worths t_best t_limit t_wanted a1_count a1_held) o_r) A) args s 0 0 A) (F0 m 2 ls []) := by
    intro k2 hk2 n
    induction n with
    | zero => intro x2_1 H locs ls hP hD hS hl h; exact (nh_none h).elim
    | succ n2 ih2 =>
      intro x2_1 H locs ls hP hD hS hl h
      replace h : fX9_met_B2 t_wanted a1_count a1_held k2 (fX9_met_L2 t_wanted a1_count a1_held k2 n2) x2_1 = some o_r := h
      unfold fX9_met_B2 at h
      refine lv_iload_n hx hb dX9_met_2 rfl (lv_at hl 2 rfl) ?_
      refine lv_aload_n hx hb dX9_met_3 rfl (lv_at hl 1 rfl) ?_
      refine va_get (D := D) (ci := 1) (v := .int a1_count) (C := RX1) (T := TX1) (N := 4) hx hb hts nhu_X1 hown hK hP 2 rfl rfl 0 (by decide) (hts _ nhw_294) (fun _ h9 => h9) rfl dX9_met_4 ?_
      refine lv_icmp_ge (tgt := 44) hx hb dX9_met_7 (by decide) (fun c3 => ?_) (fun c3 => ?_)
      · replace h := nh_t h c3
        exact hk2 x2_1 H locs ls hP hD hS (lv_sub hl [0, 1, 2] rfl) h
      · replace h := nh_f h c3
        refine lv_aload_n hx hb dX9_met_10 rfl (lv_at hl 0 rfl) ?_
        refine va_get (D := D) (ci := 8) (v := .ref q_t_wanted) (C := RX9) (T := TX9) (N := 5) hx hb hts nhu_X9 hown hK hP 0 rfl rfl 0 (by decide) (hts _ nhw_298) (fun _ h9 => h9) rfl dX9_met_11 ?_
        refine lv_iload_n hx hb dX9_met_14 rfl (lv_at hl 2 rfl) ?_
        obtain ⟨z4, h⟩ := nh_chk_some h
        refine va_iald hx hb hK hP 1 0 rfl rfl (nh_in_in z4) dX9_met_15 ?_
        refine lv_bipush (v := (-9)) hx hb dX9_met_16 (by decide) ?_
        refine lv_icmp_eq (tgt := 38) hx hb dX9_met_18 (by decide) (fun c5 => ?_) (fun c5 => ?_)
        · replace h := nh_t h c5
          obtain ⟨x2_6, ex2_6⟩ : ∃ y : Int32, y = x2_1 + 1 := ⟨_, rfl⟩
          replace h := nh_to h ex2_6
          refine lv_iinc (v := x2_6) (lv' := [(2, .int x2_6), (0, .ref q_t), (1, .ref q_a1)]) hx hb dX9_met_38 hl (k := 2) rfl (by rw [ex2_6]; rfl) (by decide) rfl (fun ls hl => ?_)
          refine lv_goto (tgt := 2) hx hb dX9_met_41 (by decide) ?_
          exact ih2 x2_6 H locs ls hP hD hS (lv_sub hl [1, 2, 0] rfl) h
        · replace h := nh_f h c5
          refine lv_aload_n hx hb dX9_met_21 rfl (lv_at hl 0 rfl) ?_
          refine va_get (D := D) (ci := 8) (v := .ref q_t_wanted) (C := RX9) (T := TX9) (N := 5) hx hb hts nhu_X9 hown hK hP 0 rfl rfl 0 (by decide) (hts _ nhw_298) (fun _ h9 => h9) rfl dX9_met_22 ?_
          refine lv_iload_n hx hb dX9_met_25 rfl (lv_at hl 2 rfl) ?_
          obtain ⟨z7, h⟩ := nh_chk_some h
          refine va_iald hx hb hK hP 1 0 rfl rfl (nh_in_in z7) dX9_met_26 ?_
          refine lv_aload_n hx hb dX9_met_27 rfl (lv_at hl 1 rfl) ?_
          refine va_get (D := D) (ci := 1) (v := .ref q_a1_held) (C := RX1) (T := TX1) (N := 4) hx hb hts nhu_X1 hown hK hP 2 rfl rfl 1 (by decide) (hts _ nhw_295) (fun _ h9 => h9) rfl dX9_met_28 ?_
          refine lv_iload_n hx hb dX9_met_31 rfl (lv_at hl 2 rfl) ?_
          obtain ⟨z8, h⟩ := nh_chk_some h
          refine va_iald hx hb hK hP 3 0 rfl rfl (nh_in_in z8) dX9_met_32 ?_
          refine lv_icmp_eq (tgt := 38) hx hb dX9_met_33 (by decide) (fun c9 => ?_) (fun c9 => ?_)
          · replace h := nh_t h c9
            obtain ⟨x2_10, ex2_10⟩ : ∃ y : Int32, y = x2_1 + 1 := ⟨_, rfl⟩
            replace h := nh_to h ex2_10
            refine lv_iinc (v := x2_10) (lv' := [(2, .int x2_10), (0, .ref q_t), (1, .ref q_a1)]) hx hb dX9_met_38 hl (k := 2) rfl (by rw [ex2_10]; rfl) (by decide) rfl (fun ls hl => ?_)
            refine lv_goto (tgt := 2) hx hb dX9_met_41 (by decide) ?_
            exact ih2 x2_10 H locs ls hP hD hS (lv_sub hl [1, 2, 0] rfl) h
          · replace h := nh_f h c9
            refine lv_iconst (v := 0) hx hb dX9_met_36 (by decide) ?_
            replace h := nh_i1 h
            exact nh_rz hx hb hr hlocks h rfl hP hS dX9_met_37
  refine L2 _ (fun x2_2 H locs ls hP hD hS hl h => ?_) _ 0 H locs ls hP hD hS (lv_sub hl [1, 2, 0] rfl) h
  refine lv_iconst (v := 1) hx hb dX9_met_44 (by decide) ?_
  replace h := nh_i1 h
  exact nh_rz hx hb hr hlocks h rfl hP hS dX9_met_45
abbrev wlX9_takeRow (cI cZ cO : ClassId) (q_t q_t_wanted q_t_bestRow q_t_row : Nat) (t_best : Int32) (t_limit : Int32) (t_bestRow : Nat → Int32) (t_row : Nat → Int32) : va_W := [(q_t, .inr (8, [.ref q_t_wanted, .int t_best, .ref q_t_bestRow, .ref q_t_row, .int t_limit])), (q_t_bestRow, .inl (cI, 12, .inl t_bestRow)), (q_t_row, .inl (cI, 12, .inl t_row))]
def fX9_takeRow (t_best : Int32) (t_limit : Int32) (t_bestRow : Nat → Int32) (t_row : Nat → Int32) (i1 : Int32) : Option (Int32 × Int32 × (Nat → Int32)) :=
  nh_let (α := Int32) ((i1 - 1)) (fun y_1 => nh_chk (nh_cp 0 0 i1 12 12) (nh_let (α := Nat → Int32) (va_cpy t_row t_bestRow (Int32.toNatClampNeg (0 : Int32)) (Int32.toNatClampNeg (0 : Int32)) (Int32.toNatClampNeg i1)) (fun t_bestRow_3 => some (i1, y_1, t_bestRow_3))))
set_option maxHeartbeats 4000000 in
set_option maxRecDepth 100000 in
theorem kX9_takeRow (l : Launch) (D : va_G) (cI cZ cO : ClassId) (sz : Nat) (q_t q_t_wanted q_t_bestRow q_t_row : Nat) (t_best : Int32) (t_limit : Int32) (t_bestRow : Nat → Int32) (t_row : Nat → Int32) (i1 : Int32) (o_t_best : Int32) (o_t_limit : Int32) (o_t_bestRow : Nat → Int32) (h : fX9_takeRow t_best t_limit t_bestRow t_row i1 = some (o_t_best, o_t_limit, o_t_bestRow)) : Met l yX9_takeRow (nh_w (.code yX9_takeRow cX9_takeRow 2 none)) (nh_rm 2) (nh_Pc D cI cZ cO (wlX9_takeRow cI cZ cO q_t q_t_wanted q_t_bestRow q_t_row t_best t_limit t_bestRow t_row) [.ref q_t, .int i1] sz) ((nh_Qv D (wlX9_takeRow cI cZ cO q_t q_t_wanted q_t_bestRow q_t_row o_t_best o_t_limit o_t_bestRow t_row)) (va_A (wlX9_takeRow cI cZ cO q_t q_t_wanted q_t_bestRow q_t_row t_best t_limit t_bestRow t_row) sz)) 0 0 (va_A (wlX9_takeRow cI cZ cO q_t q_t_wanted q_t_bestRow q_t_row t_best t_limit t_bestRow t_row) sz) := by
  unfold fX9_takeRow at h
  refine nh_met (cc := cX9_takeRow) (maxL := 2) (ret := none) (nh_Qv D (wlX9_takeRow cI cZ cO q_t q_t_wanted q_t_bestRow q_t_row o_t_best o_t_limit o_t_bestRow t_row)) (by decide) rfl (Nat.le_of_ble_eq_true rfl) ?_
  intro p e s m args below meth c A H locs ls hx hb hml hr hown hts hlocks hinit hP hK hN hD hA hS hl
  have hl : lv_has ls 2 [(0, .ref q_t), (1, .int i1)] := hl
  have hts : ∀ w ∈ nh_words, w.before args s = true := fun w h => hts w (List.mem_cons_of_mem _ h)
  refine lv_aload_n hx hb dX9_takeRow_0 rfl (lv_at hl 0 rfl) ?_
  refine lv_iload_n hx hb dX9_takeRow_1 rfl (lv_at hl 1 rfl) ?_
  refine va_put (D := D) (ci := 8) (v := .int i1) (ty := .int) (C := RX9) (T := TX9) (N := 5) hx hb hts nhu_X9 tyX9 tyX9_ok nmX9 hown hK hP hD hS 0 rfl rfl 1 (by decide) (hts _ nhw_296) (fun _ h9 => h9) rfl (by decide +kernel) rfl rfl (Nat.le_of_ble_eq_true rfl) dX9_takeRow_2 (fun H locs hP hD hS => ?_)
  have hP : va_P D vwCl (wlX9_takeRow cI cZ cO q_t q_t_wanted q_t_bestRow q_t_row i1 t_limit t_bestRow t_row) H := hP
  have hD : va_D A (wlX9_takeRow cI cZ cO q_t q_t_wanted q_t_bestRow q_t_row i1 t_limit t_bestRow t_row) := hD
  refine lv_aload_n hx hb dX9_takeRow_5 rfl (lv_at hl 0 rfl) ?_
  refine lv_iload_n hx hb dX9_takeRow_6 rfl (lv_at hl 1 rfl) ?_
  refine lv_iconst (v := 1) hx hb dX9_takeRow_7 (by decide) ?_
  refine lv_isub hx hb dX9_takeRow_8 ?_
  refine lv_topi (fun y_1 ey_1 => ?_)
  replace h := nh_to h ey_1
  refine va_put (D := D) (ci := 8) (v := .int y_1) (ty := .int) (C := RX9) (T := TX9) (N := 5) hx hb hts nhu_X9 tyX9 tyX9_ok nmX9 hown hK hP hD hS 0 rfl rfl 4 (by decide) (hts _ nhw_297) (fun _ h9 => h9) rfl (by decide +kernel) rfl rfl (Nat.le_of_ble_eq_true rfl) dX9_takeRow_9 (fun H locs hP hD hS => ?_)
  have hP : va_P D vwCl (wlX9_takeRow cI cZ cO q_t q_t_wanted q_t_bestRow q_t_row i1 y_1 t_bestRow t_row) H := hP
  have hD : va_D A (wlX9_takeRow cI cZ cO q_t q_t_wanted q_t_bestRow q_t_row i1 y_1 t_bestRow t_row) := hD
  refine lv_aload_n hx hb dX9_takeRow_12 rfl (lv_at hl 0 rfl) ?_
  refine va_get (D := D) (ci := 8) (v := .ref q_t_row) (C := RX9) (T := TX9) (N := 5) hx hb hts nhu_X9 hown hK hP 0 rfl rfl 3 (by decide) (hts _ nhw_293) (fun _ h9 => h9) rfl dX9_takeRow_13 ?_
  refine lv_iconst (v := 0) hx hb dX9_takeRow_16 (by decide) ?_
  refine lv_aload_n hx hb dX9_takeRow_17 rfl (lv_at hl 0 rfl) ?_
  refine va_get (D := D) (ci := 8) (v := .ref q_t_bestRow) (C := RX9) (T := TX9) (N := 5) hx hb hts nhu_X9 hown hK hP 0 rfl rfl 2 (by decide) (hts _ nhw_292) (fun _ h9 => h9) rfl dX9_takeRow_18 ?_
  refine lv_iconst (v := 0) hx hb dX9_takeRow_21 (by decide) ?_
  refine lv_iload_n hx hb dX9_takeRow_22 rfl (lv_at hl 1 rfl) ?_
  obtain ⟨z2, h⟩ := nh_chk_some h
  refine va_copyi hx hb (hml.trans hl.1.symm) hown (hts _ nhw_669) (hts _ nhw_670) (hts _ nhw_802) (hts _ nhw_300) hK hP hD hS 2 1 0 0 rfl rfl rfl rfl rfl (nh_cp_ok z2).1 (nh_cp_ok z2).2.1 (nh_cp_ok z2).2.2.1 (nh_cp_ok z2).2.2.2.1 (nh_cp_ok z2).2.2.2.2 (fun _ _ => rfl) (Nat.le_of_ble_eq_true rfl) (Nat.le_of_ble_eq_true rfl) dX9_takeRow_23 (fun H locs hP hD hS => ?_)
  obtain ⟨t_bestRow_3, et_bestRow_3⟩ : ∃ y : Nat → Int32, y = va_cpy t_row t_bestRow (Int32.toNatClampNeg (0 : Int32)) (Int32.toNatClampNeg (0 : Int32)) (Int32.toNatClampNeg i1) := ⟨_, rfl⟩
  replace h := nh_to h et_bestRow_3
  have hP : va_P D vwCl (wlX9_takeRow cI cZ cO q_t q_t_wanted q_t_bestRow q_t_row i1 y_1 t_bestRow_3 t_row) H := by rw [et_bestRow_3]; exact hP
  have hD : va_D A (wlX9_takeRow cI cZ cO q_t q_t_wanted q_t_bestRow q_t_row i1 y_1 t_bestRow_3 t_row) := by rw [et_bestRow_3]; exact hD
  obtain ⟨g0, g1, g2⟩ := nh_i3 h
  exact nh_rv hx hb hr hlocks (by rw [← g0, ← g1, ← g2]; exact hP) hS dX9_takeRow_26
abbrev wlX9_seek (cI cZ cO : ClassId) (q_a0 q_a1 q_a0_wanted q_a0_bestRow q_a0_row q_a1_held q_a1_known q_a1_worths : Nat) (a0_best : Int32) (a0_limit : Int32) (a0_bestRow : Nat → Int32) (a0_row : Nat → Int32) (a0_wanted : Nat → Int32) (a1_count : Int32) (a1_held : Nat → Int32) (a1_known : Nat → Int32) : va_W := [(q_a0, .inr (8, [.ref q_a0_wanted, .int a0_best, .ref q_a0_bestRow, .ref q_a0_row, .int a0_limit])), (q_a0_bestRow, .inl (cI, 12, .inl a0_bestRow)), (q_a0_row, .inl (cI, 12, .inl a0_row)), (q_a0_wanted, .inl (cI, 4, .inl a0_wanted)), (q_a1, .inr (1, [.int a1_count, .ref q_a1_held, .ref q_a1_known, .ref q_a1_worths])), (q_a1_held, .inl (cI, 4, .inl a1_held)), (q_a1_known, .inl (cI, 4, .inl a1_known))]
def fX9_seek_B29 (a0_wanted : Nat → Int32) (a1_count : Int32) (i2 : Int32) (rc : Int32 → Int32 → (Nat → Int32) → (Nat → Int32) → (Nat → Int32) → Int32 → (Nat → Int32) → (Nat → Int32) → Int32 → Option (Int32 × Int32 × (Nat → Int32) × (Nat → Int32) × (Nat → Int32) × (Nat → Int32))) (x3_4 : Int32) (k29 : Int32 → Int32 → Int32 → (Nat → Int32) → (Nat → Int32) → (Nat → Int32) → (Nat → Int32) → Option (Int32 × Int32 × (Nat → Int32) × (Nat → Int32) × (Nat → Int32) × (Nat → Int32))) (r29 : Int32 → Int32 → Int32 → (Nat → Int32) → (Nat → Int32) → (Nat → Int32) → (Nat → Int32) → Option (Int32 × Int32 × (Nat → Int32) × (Nat → Int32) × (Nat → Int32) × (Nat → Int32))) (x4_20 : Int32) (a0_best_21 : Int32) (a0_limit_22 : Int32) (a0_bestRow_23 : Nat → Int32) (a0_row_24 : Nat → Int32) (a1_held_25 : Nat → Int32) (a1_known_26 : Nat → Int32) : Option (Int32 × Int32 × (Nat → Int32) × (Nat → Int32) × (Nat → Int32) × (Nat → Int32)) :=
  (if a1_count ≤ x4_20 then k29 x4_20 a0_best_21 a0_limit_22 a0_bestRow_23 a0_row_24 a1_held_25 a1_known_26
 else (if a0_limit_22 ≤ i2 then nh_let (α := Int32) (x4_20 + 1) (fun x4_36 => r29 x4_36 a0_best_21 a0_limit_22 a0_bestRow_23 a0_row_24 a1_held_25 a1_known_26)
 else nh_b1 (fX1_canSwap a1_count a1_held_25 a1_known_26 x3_4 x4_20) (fun r_37 => (if r_37 = 0 then nh_let (α := Int32) (x4_20 + 1) (fun x4_40 => r29 x4_40 a0_best_21 a0_limit_22 a0_bestRow_23 a0_row_24 a1_held_25 a1_known_26)
 else nh_chk (nh_in i2 12) (nh_let (α := Nat → Int32) (upd a0_row_24 (Int32.toNatClampNeg i2) (fX10_told x3_4 x4_20)) (fun a0_row_42 => nh_b2 (fX1_swap a1_count a1_held_25 a1_known_26 x3_4 x4_20) (fun a1_held_43 a1_known_44 => nh_b6 (rc a0_best_21 a0_limit_22 a0_bestRow_23 a0_row_42 a0_wanted a1_count a1_held_43 a1_known_44 (i2 + 1)) (fun a0_best_46 a0_limit_47 a0_bestRow_48 a0_row_49 a1_held_50 a1_known_51 => nh_b2 (fX1_swapBack a1_count a1_held_50 a1_known_51 x3_4 x4_20) (fun a1_held_53 a1_known_54 => nh_let (α := Int32) (x4_20 + 1) (fun x4_56 => r29 x4_56 a0_best_46 a0_limit_47 a0_bestRow_48 a0_row_49 a1_held_53 a1_known_54))))))))))
def fX9_seek_L29 (a0_wanted : Nat → Int32) (a1_count : Int32) (i2 : Int32) (rc : Int32 → Int32 → (Nat → Int32) → (Nat → Int32) → (Nat → Int32) → Int32 → (Nat → Int32) → (Nat → Int32) → Int32 → Option (Int32 × Int32 × (Nat → Int32) × (Nat → Int32) × (Nat → Int32) × (Nat → Int32))) (x3_4 : Int32) (k29 : Int32 → Int32 → Int32 → (Nat → Int32) → (Nat → Int32) → (Nat → Int32) → (Nat → Int32) → Option (Int32 × Int32 × (Nat → Int32) × (Nat → Int32) × (Nat → Int32) × (Nat → Int32))) : Nat → Int32 → Int32 → Int32 → (Nat → Int32) → (Nat → Int32) → (Nat → Int32) → (Nat → Int32) → Option (Int32 × Int32 × (Nat → Int32) × (Nat → Int32) × (Nat → Int32) × (Nat → Int32))
  | 0 => fun _ _ _ _ _ _ _ => none
  | n + 1 => fX9_seek_B29 a0_wanted a1_count i2 rc x3_4 k29 (fX9_seek_L29 a0_wanted a1_count i2 rc x3_4 k29 n)
def fX9_seek_B16 (a0_wanted : Nat → Int32) (a1_count : Int32) (i2 : Int32) (rc : Int32 → Int32 → (Nat → Int32) → (Nat → Int32) → (Nat → Int32) → Int32 → (Nat → Int32) → (Nat → Int32) → Int32 → Option (Int32 × Int32 × (Nat → Int32) × (Nat → Int32) × (Nat → Int32) × (Nat → Int32))) (F : Nat) (k16 : Int32 → Int32 → Int32 → (Nat → Int32) → (Nat → Int32) → (Nat → Int32) → (Nat → Int32) → Option (Int32 × Int32 × (Nat → Int32) × (Nat → Int32) × (Nat → Int32) × (Nat → Int32))) (r16 : Int32 → Int32 → Int32 → (Nat → Int32) → (Nat → Int32) → (Nat → Int32) → (Nat → Int32) → Option (Int32 × Int32 × (Nat → Int32) × (Nat → Int32) × (Nat → Int32) × (Nat → Int32))) (x3_4 : Int32) (a0_best_5 : Int32) (a0_limit_6 : Int32) (a0_bestRow_7 : Nat → Int32) (a0_row_8 : Nat → Int32) (a1_held_9 : Nat → Int32) (a1_known_10 : Nat → Int32) : Option (Int32 × Int32 × (Nat → Int32) × (Nat → Int32) × (Nat → Int32) × (Nat → Int32)) :=
  (if a1_count ≤ x3_4 then k16 x3_4 a0_best_5 a0_limit_6 a0_bestRow_7 a0_row_8 a1_held_9 a1_known_10
 else nh_let (α := Int32) ((x3_4 + 1)) (fun y_19 => fX9_seek_L29 a0_wanted a1_count i2 rc x3_4 (fun x4_27 a0_best_28 a0_limit_29 a0_bestRow_30 a0_row_31 a1_held_32 a1_known_33 => nh_let (α := Int32) (x3_4 + 1) (fun x3_57 => r16 x3_57 a0_best_28 a0_limit_29 a0_bestRow_30 a0_row_31 a1_held_32 a1_known_33)) F y_19 a0_best_5 a0_limit_6 a0_bestRow_7 a0_row_8 a1_held_9 a1_known_10))
def fX9_seek_L16 (a0_wanted : Nat → Int32) (a1_count : Int32) (i2 : Int32) (rc : Int32 → Int32 → (Nat → Int32) → (Nat → Int32) → (Nat → Int32) → Int32 → (Nat → Int32) → (Nat → Int32) → Int32 → Option (Int32 × Int32 × (Nat → Int32) × (Nat → Int32) × (Nat → Int32) × (Nat → Int32))) (F : Nat) (k16 : Int32 → Int32 → Int32 → (Nat → Int32) → (Nat → Int32) → (Nat → Int32) → (Nat → Int32) → Option (Int32 × Int32 × (Nat → Int32) × (Nat → Int32) × (Nat → Int32) × (Nat → Int32))) : Nat → Int32 → Int32 → Int32 → (Nat → Int32) → (Nat → Int32) → (Nat → Int32) → (Nat → Int32) → Option (Int32 × Int32 × (Nat → Int32) × (Nat → Int32) × (Nat → Int32) × (Nat → Int32))
  | 0 => fun _ _ _ _ _ _ _ => none
  | n + 1 => fX9_seek_B16 a0_wanted a1_count i2 rc F k16 (fX9_seek_L16 a0_wanted a1_count i2 rc F k16 n)
def fX9_seek_R (F : Nat) (rc : Int32 → Int32 → (Nat → Int32) → (Nat → Int32) → (Nat → Int32) → Int32 → (Nat → Int32) → (Nat → Int32) → Int32 → Option (Int32 × Int32 × (Nat → Int32) × (Nat → Int32) × (Nat → Int32) × (Nat → Int32))) (a0_best : Int32) (a0_limit : Int32) (a0_bestRow : Nat → Int32) (a0_row : Nat → Int32) (a0_wanted : Nat → Int32) (a1_count : Int32) (a1_held : Nat → Int32) (a1_known : Nat → Int32) (i2 : Int32) : Option (Int32 × Int32 × (Nat → Int32) × (Nat → Int32) × (Nat → Int32) × (Nat → Int32)) :=
  nh_b1 (fX9_met F a0_wanted a1_count a1_held) (fun r_1 => (if r_1 = 0 then fX9_seek_L16 a0_wanted a1_count i2 rc F (fun x3_11 a0_best_12 a0_limit_13 a0_bestRow_14 a0_row_15 a1_held_16 a1_known_17 => some (a0_best_12, a0_limit_13, a0_bestRow_14, a0_row_15, a1_held_16, a1_known_17)) F 0 a0_best a0_limit a0_bestRow a0_row a1_held a1_known
 else nh_b3 (fX9_takeRow a0_best a0_limit a0_bestRow a0_row i2) (fun a0_best_58 a0_limit_59 a0_bestRow_60 => some (a0_best_58, a0_limit_59, a0_bestRow_60, a0_row, a1_held, a1_known))))
def fX9_seek (F : Nat) : Nat → Int32 → Int32 → (Nat → Int32) → (Nat → Int32) → (Nat → Int32) → Int32 → (Nat → Int32) → (Nat → Int32) → Int32 → Option (Int32 × Int32 × (Nat → Int32) × (Nat → Int32) × (Nat → Int32) × (Nat → Int32))
  | 0 => fun _ _ _ _ _ _ _ _ _ => none
  | d + 1 => fX9_seek_R F (fX9_seek F d)
set_option maxHeartbeats 4000000 in
set_option maxRecDepth 100000 in
theorem kX9_seek (F : Nat) (d : Nat) (l : Launch) (D : va_G) (cI cZ cO : ClassId) : ∀ (sz : Nat) (q_a0 q_a1 q_a0_wanted q_a0_bestRow q_a0_row q_a1_held q_a1_known q_a1_worths : Nat) (a0_best : Int32) (a0_limit : Int32) (a0_bestRow : Nat → Int32) (a0_row : Nat → Int32) (a0_wanted : Nat → Int32) (a1_count : Int32) (a1_held : Nat → Int32) (a1_known : Nat → Int32) (i2 : Int32) (o_a0_best : Int32) (o_a0_limit : Int32) (o_a0_bestRow : Nat → Int32) (o_a0_row : Nat → Int32) (o_a1_held : Nat → Int32) (o_a1_known : Nat → Int32), fX9_seek F d a0_best a0_limit a0_bestRow a0_row a0_wanted a1_count a1_held a1_known i2 = some (o_a0_best, o_a0_limit, o_a0_bestRow, o_a0_row, o_a1_held, o_a1_known) → Met l yX9_seek (nh_w (.code yX9_seek cX9_seek 5 none)) (nh_rm (3 + d)) (nh_Pc D cI cZ cO (wlX9_seek cI cZ cO q_a0 q_a1 q_a0_wanted q_a0_bestRow q_a0_row q_a1_held q_a1_known q_a1_worths a0_best a0_limit a0_bestRow a0_row a0_wanted a1_count a1_held a1_known) [.ref q_a0, .ref q_a1, .int i2] sz) ((nh_Qv D (wlX9_seek cI cZ cO q_a0 q_a1 q_a0_wanted q_a0_bestRow q_a0_row q_a1_held q_a1_known q_a1_worths o_a0_best o_a0_limit o_a0_bestRow o_a0_row a0_wanted a1_count o_a1_held o_a1_known)) (va_A (wlX9_seek cI cZ cO q_a0 q_a1 q_a0_wanted q_a0_bestRow q_a0_row q_a1_held q_a1_known q_a1_worths a0_best a0_limit a0_bestRow a0_row a0_wanted a1_count a1_held a1_known) sz)) 0 0 (va_A (wlX9_seek cI cZ cO q_a0 q_a1 q_a0_wanted q_a0_bestRow q_a0_row q_a1_held q_a1_known q_a1_worths a0_best a0_limit a0_bestRow a0_row a0_wanted a1_count a1_held a1_known) sz) := by
  induction d with
  | zero => intro sz q_a0 q_a1 q_a0_wanted q_a0_bestRow q_a0_row q_a1_held q_a1_known q_a1_worths a0_best a0_limit a0_bestRow a0_row a0_wanted a1_count a1_held a1_known i2 o_a0_best o_a0_limit o_a0_bestRow o_a0_row o_a1_held o_a1_known h; exact (nh_none h).elim
  | succ d ihd =>
    intro sz q_a0 q_a1 q_a0_wanted q_a0_bestRow q_a0_row q_a1_held q_a1_known q_a1_worths a0_best a0_limit a0_bestRow a0_row a0_wanted a1_count a1_held a1_known i2 o_a0_best o_a0_limit o_a0_bestRow o_a0_row o_a1_held o_a1_known h
    replace h : fX9_seek_R F (fX9_seek F d) a0_best a0_limit a0_bestRow a0_row a0_wanted a1_count a1_held a1_known i2 = some (o_a0_best, o_a0_limit, o_a0_bestRow, o_a0_row, o_a1_held, o_a1_known) := h
    unfold fX9_seek_R at h
    refine nh_met (cc := cX9_seek) (maxL := 5) (ret := none) (nh_Qv D (wlX9_seek cI cZ cO q_a0 q_a1 q_a0_wanted q_a0_bestRow q_a0_row q_a1_held q_a1_known q_a1_worths o_a0_best o_a0_limit o_a0_bestRow o_a0_row a0_wanted a1_count o_a1_held o_a1_known)) (by decide) rfl (Nat.le_of_ble_eq_true rfl) ?_
    intro p e s m args below meth c A H locs ls hx hb hml hr hown hts hlocks hinit hP hK hN hD hA hS hl
    have hl : lv_has ls 5 [(0, .ref q_a0), (1, .ref q_a1), (2, .int i2)] := hl
    have hts : ∀ w ∈ nh_words, w.before args s = true := fun w h => hts w (List.mem_cons_of_mem _ h)
    refine lv_aload_n hx hb dX9_seek_0 rfl (lv_at hl 0 rfl) ?_
    refine lv_aload_n hx hb dX9_seek_1 rfl (lv_at hl 1 rfl) ?_
    obtain ⟨r_1, hc2, h⟩ := nh_b1_some h
    refine nh_goi (nh_V (As := [.ref q_a1]) (rest := []) ⟨hx, hb, hml, hown, hts⟩ (kX9_met F l D cI cZ cO H.size q_a0 q_a1 q_a0_wanted q_a0_bestRow q_a0_row q_a1_held q_a1_known q_a1_worths a0_best a0_limit a0_wanted a1_count a1_held r_1 hc2) (cwV 1 hts (nh_gV nhw_664 nhw_452 nhw_797 nhw_313 nhw_178) rfl rfl rfl (by decide +kernel) ⟨by show 0 + 1 ≤ 3 + (d + 1); omega, by show 8 + (3 + 11) + 64 * 0 ≤ 64 * (3 + (d + 1)); omega⟩) hK hN hP hD (isC := [0, 3, 4, 5]) rfl rfl 0 8 rfl rfl rfl rfl hl.1 rfl (Nat.le_of_ble_eq_true rfl) dX9_seek_2 ⟨Nat.zero_le _, Nat.zero_le _⟩) hP hD hS hA (isC := [0, 3, 4, 5]) rfl rfl rfl (w' := (wlX9_seek cI cZ cO q_a0 q_a1 q_a0_wanted q_a0_bestRow q_a0_row q_a1_held q_a1_known q_a1_worths a0_best a0_limit a0_bestRow a0_row a0_wanted a1_count a1_held a1_known)) rfl (fun H locs hP hD hS => ?_)
    refine lv_if_eq (tgt := 14) hx hb dX9_seek_5 (by decide) (fun c3 => ?_) (fun c3 => ?_)
    · replace h := nh_t h c3
      refine lv_iconst (v := 0) hx hb dX9_seek_14 (by decide) ?_
      refine lv_istore_n (lv' := [(3, .int 0), (0, .ref q_a0), (1, .ref q_a1), (2, .int i2)]) hx hb dX9_seek_15 rfl hl (by decide) rfl (fun ls hl => ?_)
      have L16 : ∀ (k16 : Int32 → Int32 → Int32 → (Nat → Int32) → (Nat → Int32) → (Nat → Int32) → (Nat → Int32) → Option (Int32 × Int32 × (Nat → Int32) × (Nat → Int32) × (Nat → Int32) × (Nat → Int32))), (∀ (x3_11 : Int32) (a0_best_12 : Int32) (a0_limit_13 : Int32) (a0_bestRow_14 : Nat → Int32) (a0_row_15 : Nat → Int32) (a1_held_16 : Nat → Int32) (a1_known_17 : Nat → Int32) (H : Heap) (locs : List Loc) (ls : Array Slot), va_P D vwCl (wlX9_seek cI cZ cO q_a0 q_a1 q_a0_wanted q_a0_bestRow q_a0_row q_a1_held q_a1_known q_a1_worths a0_best_12 a0_limit_13 a0_bestRow_14 a0_row_15 a0_wanted a1_count a1_held_16 a1_known_17) H → va_D A (wlX9_seek cI cZ cO q_a0 q_a1 q_a0_wanted q_a0_bestRow q_a0_row q_a1_held q_a1_known q_a1_worths a0_best_12 a0_limit_13 a0_bestRow_14 a0_row_15 a0_wanted a1_count a1_held_16 a1_known_17) → va_S A s.heap H locs → lv_has ls 5 [(0, .ref q_a0), (1, .ref q_a1), (2, .int i2), (3, .int x3_11)] → k16 x3_11 a0_best_12 a0_limit_13 a0_bestRow_14 a0_row_15 a1_held_16 a1_known_17 = some (o_a0_best, o_a0_limit, o_a0_bestRow, o_a0_row, o_a1_held, o_a1_known) → W p l e (nh_rm (3 + (d + 1))) s m args below meth c H locs 0 0 (MQ below ((nh_Qv D (wlX9_seek cI cZ cO q_a0 q_a1 q_a0_wanted q_a0_bestRow q_a0_row q_a1_held q_a1_known q_a1_worths o_a0_best o_a0_limit o_a0_bestRow o_a0_row a0_wanted a1_count o_a1_held o_a1_known)) A) args s 0 0 A) (F0 m 102 ls [])) → ∀ (n : Nat) (x3_4 : Int32) (a0_best_5 : Int32) (a0_limit_6 : Int32) (a0_bestRow_7 : Nat → Int32) (a0_row_8 : Nat → Int32) (a1_held_9 : Nat → Int32) (a1_known_10 : Nat → Int32) (H : Heap) (locs : List Loc) (ls : Array Slot), va_P D vwCl (wlX9_seek cI cZ cO q_a0 q_a1 q_a0_wanted q_a0_bestRow q_a0_row q_a1_held q_a1_known q_a1_worths a0_best_5 a0_limit_6 a0_bestRow_7 a0_row_8 a0_wanted a1_count a1_held_9 a1_known_10) H → va_D A (wlX9_seek cI cZ cO q_a0 q_a1 q_a0_wanted q_a0_bestRow q_a0_row q_a1_held q_a1_known q_a1_worths a0_best_5 a0_limit_6 a0_bestRow_7 a0_row_8 a0_wanted a1_count a1_held_9 a1_known_10) → va_S A s.heap H locs → lv_has ls 5 [(0, .ref q_a0), (1, .ref q_a1), (2, .int i2), (3, .int x3_4)] → fX9_seek_L16 a0_wanted a1_count i2 (fX9_seek F d) F k16 n x3_4 a0_best_5 a0_limit_6 a0_bestRow_7 a0_row_8 a1_held_9 a1_known_10 = some (o_a0_best, o_a0_limit, o_a0_bestRow, o_a0_row, o_a1_held, o_a1_known) → W p l e (nh_rm (3 + (d + 1))) s m args below meth c H locs 0 0 (MQ below ((nh_Qv D (wlX9_seek cI cZ cO q_a0 q_a1 q_a0_wanted q_a0_bestRow q_a0_row q_a1_held q_a1_known q_a1_worths o_a0_best o_a0_limit o_a0_bestRow o_a0_row a0_wanted a1_count o_a1_held o_a1_known)) A) args s 0 0 A) (F0 m 16 ls []) := by
        intro k16 hk16 n
        induction n with
        | zero => intro x3_4 a0_best_5 a0_limit_6 a0_bestRow_7 a0_row_8 a1_held_9 a1_known_10 H locs ls hP hD hS hl h; exact (nh_none h).elim
        | succ n16 ih16 =>
          intro x3_4 a0_best_5 a0_limit_6 a0_bestRow_7 a0_row_8 a1_held_9 a1_known_10 H locs ls hP hD hS hl h
          replace h : fX9_seek_B16 a0_wanted a1_count i2 (fX9_seek F d) F k16 (fX9_seek_L16 a0_wanted a1_count i2 (fX9_seek F d) F k16 n16) x3_4 a0_best_5 a0_limit_6 a0_bestRow_7 a0_row_8 a1_held_9 a1_known_10 = some (o_a0_best, o_a0_limit, o_a0_bestRow, o_a0_row, o_a1_held, o_a1_known) := h
          unfold fX9_seek_B16 at h
          refine lv_iload_n hx hb dX9_seek_16 rfl (lv_at hl 3 rfl) ?_
          refine lv_aload_n hx hb dX9_seek_17 rfl (lv_at hl 1 rfl) ?_
          refine va_get (D := D) (ci := 1) (v := .int a1_count) (C := RX1) (T := TX1) (N := 4) hx hb hts nhu_X1 hown hK hP 4 rfl rfl 0 (by decide) (hts _ nhw_294) (fun _ h9 => h9) rfl dX9_seek_18 ?_
          refine lv_icmp_ge (tgt := 102) hx hb dX9_seek_21 (by decide) (fun c18 => ?_) (fun c18 => ?_)
          · replace h := nh_t h c18
            exact hk16 x3_4 a0_best_5 a0_limit_6 a0_bestRow_7 a0_row_8 a1_held_9 a1_known_10 H locs ls hP hD hS (lv_sub hl [0, 1, 2, 3] rfl) h
          · replace h := nh_f h c18
            refine lv_iload_n hx hb dX9_seek_24 rfl (lv_at hl 3 rfl) ?_
            refine lv_iconst (v := 1) hx hb dX9_seek_25 (by decide) ?_
            refine lv_iadd hx hb dX9_seek_26 ?_
            refine lv_topi (fun y_19 ey_19 => ?_)
            replace h := nh_to h ey_19
            refine lv_istore (lv' := [(4, .int y_19), (0, .ref q_a0), (1, .ref q_a1), (2, .int i2), (3, .int x3_4)]) hx hb dX9_seek_27 hl (by decide) rfl (fun ls hl => ?_)
            have L29 : ∀ (k29 : Int32 → Int32 → Int32 → (Nat → Int32) → (Nat → Int32) → (Nat → Int32) → (Nat → Int32) → Option (Int32 × Int32 × (Nat → Int32) × (Nat → Int32) × (Nat → Int32) × (Nat → Int32))), (∀ (x4_27 : Int32) (a0_best_28 : Int32) (a0_limit_29 : Int32) (a0_bestRow_30 : Nat → Int32) (a0_row_31 : Nat → Int32) (a1_held_32 : Nat → Int32) (a1_known_33 : Nat → Int32) (H : Heap) (locs : List Loc) (ls : Array Slot), va_P D vwCl (wlX9_seek cI cZ cO q_a0 q_a1 q_a0_wanted q_a0_bestRow q_a0_row q_a1_held q_a1_known q_a1_worths a0_best_28 a0_limit_29 a0_bestRow_30 a0_row_31 a0_wanted a1_count a1_held_32 a1_known_33) H → va_D A (wlX9_seek cI cZ cO q_a0 q_a1 q_a0_wanted q_a0_bestRow q_a0_row q_a1_held q_a1_known q_a1_worths a0_best_28 a0_limit_29 a0_bestRow_30 a0_row_31 a0_wanted a1_count a1_held_32 a1_known_33) → va_S A s.heap H locs → lv_has ls 5 [(0, .ref q_a0), (1, .ref q_a1), (2, .int i2), (3, .int x3_4), (4, .int x4_27)] → k29 x4_27 a0_best_28 a0_limit_29 a0_bestRow_30 a0_row_31 a1_held_32 a1_known_33 = some (o_a0_best, o_a0_limit, o_a0_bestRow, o_a0_row, o_a1_held, o_a1_known) → W p l e (nh_rm (3 + (d + 1))) s m args below meth c H locs 0 0 (MQ below ((nh_Qv D (wlX9_seek cI cZ cO q_a0 q_a1 q_a0_wanted q_a0_bestRow q_a0_row q_a1_held q_a1_known q_a1_worths o_a0_best o_a0_limit o_a0_bestRow o_a0_row a0_wanted a1_count o_a1_held o_a1_known)) A) args s 0 0 A) (F0 m 96 ls [])) → ∀ (n : Nat) (x4_20 : Int32) (a0_best_21 : Int32) (a0_limit_22 : Int32) (a0_bestRow_23 : Nat → Int32) (a0_row_24 : Nat → Int32) (a1_held_25 : Nat → Int32) (a1_known_26 : Nat → Int32) (H : Heap) (locs : List Loc) (ls : Array Slot), va_P D vwCl (wlX9_seek cI cZ cO q_a0 q_a1 q_a0_wanted q_a0_bestRow q_a0_row q_a1_held q_a1_known q_a1_worths a0_best_21 a0_limit_22 a0_bestRow_23 a0_row_24 a0_wanted a1_count a1_held_25 a1_known_26) H → va_D A (wlX9_seek cI cZ cO q_a0 q_a1 q_a0_wanted q_a0_bestRow q_a0_row q_a1_held q_a1_known q_a1_worths a0_best_21 a0_limit_22 a0_bestRow_23 a0_row_24 a0_wanted a1_count a1_held_25 a1_known_26) → va_S A s.heap H locs → lv_has ls 5 [(0, .ref q_a0), (1, .ref q_a1), (2, .int i2), (3, .int x3_4), (4, .int x4_20)] → fX9_seek_L29 a0_wanted a1_count i2 (fX9_seek F d) x3_4 k29 n x4_20 a0_best_21 a0_limit_22 a0_bestRow_23 a0_row_24 a1_held_25 a1_known_26 = some (o_a0_best, o_a0_limit, o_a0_bestRow, o_a0_row, o_a1_held, o_a1_known) → W p l e (nh_rm (3 + (d + 1))) s m args below meth c H locs 0 0 (MQ below ((nh_Qv D (wlX9_seek cI cZ cO q_a0 q_a1 q_a0_wanted q_a0_bestRow q_a0_row q_a1_held q_a1_known q_a1_worths o_a0_best o_a0_limit o_a0_bestRow o_a0_row a0_wanted a1_count o_a1_held o_a1_known)) A) args s 0 0 A) (F0 m 29 ls []) := by
              intro k29 hk29 n
              induction n with
              | zero => intro x4_20 a0_best_21 a0_limit_22 a0_bestRow_23 a0_row_24 a1_held_25 a1_known_26 H locs ls hP hD hS hl h; exact (nh_none h).elim
              | succ n29 ih29 =>
                intro x4_20 a0_best_21 a0_limit_22 a0_bestRow_23 a0_row_24 a1_held_25 a1_known_26 H locs ls hP hD hS hl h
                replace h : fX9_seek_B29 a0_wanted a1_count i2 (fX9_seek F d) x3_4 k29 (fX9_seek_L29 a0_wanted a1_count i2 (fX9_seek F d) x3_4 k29 n29) x4_20 a0_best_21 a0_limit_22 a0_bestRow_23 a0_row_24 a1_held_25 a1_known_26 = some (o_a0_best, o_a0_limit, o_a0_bestRow, o_a0_row, o_a1_held, o_a1_known) := h
                unfold fX9_seek_B29 at h
                refine lv_iload hx hb dX9_seek_29 (lv_at hl 4 rfl) ?_
                refine lv_aload_n hx hb dX9_seek_31 rfl (lv_at hl 1 rfl) ?_
                refine va_get (D := D) (ci := 1) (v := .int a1_count) (C := RX1) (T := TX1) (N := 4) hx hb hts nhu_X1 hown hK hP 4 rfl rfl 0 (by decide) (hts _ nhw_294) (fun _ h9 => h9) rfl dX9_seek_32 ?_
                refine lv_icmp_ge (tgt := 96) hx hb dX9_seek_35 (by decide) (fun c34 => ?_) (fun c34 => ?_)
                · replace h := nh_t h c34
                  exact hk29 x4_20 a0_best_21 a0_limit_22 a0_bestRow_23 a0_row_24 a1_held_25 a1_known_26 H locs ls hP hD hS (lv_sub hl [0, 1, 2, 3, 4] rfl) h
                · replace h := nh_f h c34
                  refine lv_iload_n hx hb dX9_seek_38 rfl (lv_at hl 2 rfl) ?_
                  refine lv_aload_n hx hb dX9_seek_39 rfl (lv_at hl 0 rfl) ?_
                  refine va_get (D := D) (ci := 8) (v := .int a0_limit_22) (C := RX9) (T := TX9) (N := 5) hx hb hts nhu_X9 hown hK hP 0 rfl rfl 4 (by decide) (hts _ nhw_297) (fun _ h9 => h9) rfl dX9_seek_40 ?_
                  refine lv_icmp_ge (tgt := 90) hx hb dX9_seek_43 (by decide) (fun c35 => ?_) (fun c35 => ?_)
                  · replace h := nh_t h c35
                    obtain ⟨x4_36, ex4_36⟩ : ∃ y : Int32, y = x4_20 + 1 := ⟨_, rfl⟩
                    replace h := nh_to h ex4_36
                    refine lv_iinc (v := x4_36) (lv' := [(4, .int x4_36), (0, .ref q_a0), (1, .ref q_a1), (2, .int i2), (3, .int x3_4)]) hx hb dX9_seek_90 hl (k := 4) rfl (by rw [ex4_36]; rfl) (by decide) rfl (fun ls hl => ?_)
                    refine lv_goto (tgt := 29) hx hb dX9_seek_93 (by decide) ?_
                    exact ih29 x4_36 a0_best_21 a0_limit_22 a0_bestRow_23 a0_row_24 a1_held_25 a1_known_26 H locs ls hP hD hS (lv_sub hl [1, 2, 3, 4, 0] rfl) h
                  · replace h := nh_f h c35
                    refine lv_aload_n hx hb dX9_seek_46 rfl (lv_at hl 1 rfl) ?_
                    refine lv_iload_n hx hb dX9_seek_47 rfl (lv_at hl 3 rfl) ?_
                    refine lv_iload hx hb dX9_seek_48 (lv_at hl 4 rfl) ?_
                    obtain ⟨r_37, hc38, h⟩ := nh_b1_some h
                    refine nh_goi (nh_V (As := [.int x3_4, .int x4_20]) (rest := []) ⟨hx, hb, hml, hown, hts⟩ (kX1_canSwap  l D cI cZ cO H.size q_a1 q_a1_held q_a1_known q_a1_worths a1_count a1_held_25 a1_known_26 x3_4 x4_20 r_37 hc38) (cwV 2 hts (nh_gV nhw_666 nhw_415 nhw_677 nhw_303 nhw_124) rfl rfl rfl (by decide +kernel) ⟨by show 1 + 1 ≤ 3 + (d + 1); omega, by show 8 + (3 + 11) + 64 * 1 ≤ 64 * (3 + (d + 1)); omega⟩) hK hN hP hD (isC := [4, 5, 6]) rfl rfl 4 1 rfl rfl rfl rfl hl.1 rfl (Nat.le_of_ble_eq_true rfl) dX9_seek_50 ⟨Nat.zero_le _, Nat.zero_le _⟩) hP hD hS hA (isC := [4, 5, 6]) rfl rfl rfl (w' := (wlX9_seek cI cZ cO q_a0 q_a1 q_a0_wanted q_a0_bestRow q_a0_row q_a1_held q_a1_known q_a1_worths a0_best_21 a0_limit_22 a0_bestRow_23 a0_row_24 a0_wanted a1_count a1_held_25 a1_known_26)) rfl (fun H locs hP hD hS => ?_)
                    refine lv_if_eq (tgt := 90) hx hb dX9_seek_53 (by decide) (fun c39 => ?_) (fun c39 => ?_)
                    · replace h := nh_t h c39
                      obtain ⟨x4_40, ex4_40⟩ : ∃ y : Int32, y = x4_20 + 1 := ⟨_, rfl⟩
                      replace h := nh_to h ex4_40
                      refine lv_iinc (v := x4_40) (lv' := [(4, .int x4_40), (0, .ref q_a0), (1, .ref q_a1), (2, .int i2), (3, .int x3_4)]) hx hb dX9_seek_90 hl (k := 4) rfl (by rw [ex4_40]; rfl) (by decide) rfl (fun ls hl => ?_)
                      refine lv_goto (tgt := 29) hx hb dX9_seek_93 (by decide) ?_
                      exact ih29 x4_40 a0_best_21 a0_limit_22 a0_bestRow_23 a0_row_24 a1_held_25 a1_known_26 H locs ls hP hD hS (lv_sub hl [1, 2, 3, 4, 0] rfl) h
                    · replace h := nh_f h c39
                      refine lv_aload_n hx hb dX9_seek_56 rfl (lv_at hl 0 rfl) ?_
                      refine va_get (D := D) (ci := 8) (v := .ref q_a0_row) (C := RX9) (T := TX9) (N := 5) hx hb hts nhu_X9 hown hK hP 0 rfl rfl 3 (by decide) (hts _ nhw_293) (fun _ h9 => h9) rfl dX9_seek_57 ?_
                      refine lv_iload_n hx hb dX9_seek_60 rfl (lv_at hl 2 rfl) ?_
                      refine lv_iload_n hx hb dX9_seek_61 rfl (lv_at hl 3 rfl) ?_
                      refine lv_iload hx hb dX9_seek_62 (lv_at hl 4 rfl) ?_
                      refine nh_goi (nh_SN (As := [.int x3_4, .int x4_20]) (rest := [.int i2, .ref q_a0_row]) ⟨hx, hb, hml, hown, hts⟩ (kX10_told  l D cI cZ cO H.size x3_4 x4_20 (fX10_told x3_4 x4_20) rfl) ⟨va_cnB 2 hts (nh_gC nhw_52) rfl rfl rfl (nh_N_at hN 13 rfl) (hts _ nhw_304) (by decide +kernel) ⟨by show 2 + 1 ≤ 3 + (d + 1); omega, by show 8 + (2 + 11) + 64 * 2 ≤ 64 * (3 + (d + 1)); omega⟩, (hts _ nhw_807), trivial⟩ hK hN hP hD (isC := []) rfl rfl rfl hl.1 rfl (Nat.le_of_ble_eq_true rfl) dX9_seek_64 ⟨Nat.zero_le _, Nat.zero_le _⟩) hP hD hS hA (isC := []) rfl rfl rfl (w' := (wlX9_seek cI cZ cO q_a0 q_a1 q_a0_wanted q_a0_bestRow q_a0_row q_a1_held q_a1_known q_a1_worths a0_best_21 a0_limit_22 a0_bestRow_23 a0_row_24 a0_wanted a1_count a1_held_25 a1_known_26)) rfl (fun H locs hP hD hS => ?_)
                      obtain ⟨z41, h⟩ := nh_chk_some h
                      refine va_iast hx hb hK hP hD hS 2 0 rfl rfl (nh_in_in z41) dX9_seek_67 (fun H locs hP hD hS => ?_)
                      obtain ⟨a0_row_42, ea0_row_42⟩ : ∃ y : Nat → Int32, y = upd a0_row_24 (Int32.toNatClampNeg i2) (fX10_told x3_4 x4_20) := ⟨_, rfl⟩
                      replace h := nh_to h ea0_row_42
                      have hP : va_P D vwCl (wlX9_seek cI cZ cO q_a0 q_a1 q_a0_wanted q_a0_bestRow q_a0_row q_a1_held q_a1_known q_a1_worths a0_best_21 a0_limit_22 a0_bestRow_23 a0_row_42 a0_wanted a1_count a1_held_25 a1_known_26) H := by rw [ea0_row_42]; exact hP
                      have hD : va_D A (wlX9_seek cI cZ cO q_a0 q_a1 q_a0_wanted q_a0_bestRow q_a0_row q_a1_held q_a1_known q_a1_worths a0_best_21 a0_limit_22 a0_bestRow_23 a0_row_42 a0_wanted a1_count a1_held_25 a1_known_26) := by rw [ea0_row_42]; exact hD
                      refine lv_aload_n hx hb dX9_seek_68 rfl (lv_at hl 1 rfl) ?_
                      refine lv_iload_n hx hb dX9_seek_69 rfl (lv_at hl 3 rfl) ?_
                      refine lv_iload hx hb dX9_seek_70 (lv_at hl 4 rfl) ?_
                      obtain ⟨a1_held_43, a1_known_44, hc45, h⟩ := nh_b2_some h
                      refine nh_gov (nh_V (As := [.int x3_4, .int x4_20]) (rest := []) ⟨hx, hb, hml, hown, hts⟩ (kX1_swap  l D cI cZ cO H.size q_a1 q_a1_held q_a1_known q_a1_worths a1_count a1_held_25 a1_known_26 x3_4 x4_20 a1_held_43 a1_known_44 hc45) (cwV 2 hts (nh_gV nhw_667 nhw_425 nhw_686 nhw_303 nhw_135) rfl rfl rfl (by decide +kernel) ⟨by show 2 + 1 ≤ 3 + (d + 1); omega, by show 8 + (3 + 11) + 64 * 2 ≤ 64 * (3 + (d + 1)); omega⟩) hK hN hP hD (isC := [4, 5, 6]) rfl rfl 4 1 rfl rfl rfl rfl hl.1 rfl (Nat.le_of_ble_eq_true rfl) dX9_seek_72 ⟨Nat.zero_le _, Nat.zero_le _⟩) hP hD hS hA (isC := [4, 5, 6]) rfl rfl rfl (w' := (wlX9_seek cI cZ cO q_a0 q_a1 q_a0_wanted q_a0_bestRow q_a0_row q_a1_held q_a1_known q_a1_worths a0_best_21 a0_limit_22 a0_bestRow_23 a0_row_42 a0_wanted a1_count a1_held_43 a1_known_44)) rfl (fun H locs hP hD hS => ?_)
                      refine lv_aload_n hx hb dX9_seek_75 rfl (lv_at hl 0 rfl) ?_
                      refine lv_aload_n hx hb dX9_seek_76 rfl (lv_at hl 1 rfl) ?_
                      refine lv_iload_n hx hb dX9_seek_77 rfl (lv_at hl 2 rfl) ?_
                      refine lv_iconst (v := 1) hx hb dX9_seek_78 (by decide) ?_
                      refine lv_iadd hx hb dX9_seek_79 ?_
                      obtain ⟨a0_best_46, a0_limit_47, a0_bestRow_48, a0_row_49, a1_held_50, a1_known_51, hc52, h⟩ := nh_b6_some h
                      refine nh_gov (nh_S (As := [.ref q_a0, .ref q_a1, .int (i2 + 1)]) (rest := []) ⟨hx, hb, hml, hown, hts⟩ (ihd H.size q_a0 q_a1 q_a0_wanted q_a0_bestRow q_a0_row q_a1_held q_a1_known q_a1_worths a0_best_21 a0_limit_22 a0_bestRow_23 a0_row_42 a0_wanted a1_count a1_held_43 a1_known_44 (i2 + 1) a0_best_46 a0_limit_47 a0_bestRow_48 a0_row_49 a1_held_50 a1_known_51 hc52) (va_cwS 3 hts (nh_gS nhw_663 nhw_828 nhw_313 nhw_179) rfl rfl rfl (by decide +kernel) ⟨by show 3 + d + 1 ≤ 3 + (d + 1); omega, by show 8 + (5 + 11) + 64 * (3 + d) ≤ 64 * (3 + (d + 1)); omega⟩) hK hN hP hD (isC := [0, 1, 2, 3, 4, 5, 6]) rfl rfl rfl hl.1 rfl (Nat.le_of_ble_eq_true rfl) dX9_seek_80 ⟨Nat.zero_le _, Nat.zero_le _⟩) hP hD hS hA (isC := [0, 1, 2, 3, 4, 5, 6]) rfl rfl rfl (w' := (wlX9_seek cI cZ cO q_a0 q_a1 q_a0_wanted q_a0_bestRow q_a0_row q_a1_held q_a1_known q_a1_worths a0_best_46 a0_limit_47 a0_bestRow_48 a0_row_49 a0_wanted a1_count a1_held_50 a1_known_51)) rfl (fun H locs hP hD hS => ?_)
                      refine lv_aload_n hx hb dX9_seek_83 rfl (lv_at hl 1 rfl) ?_
                      refine lv_iload_n hx hb dX9_seek_84 rfl (lv_at hl 3 rfl) ?_
                      refine lv_iload hx hb dX9_seek_85 (lv_at hl 4 rfl) ?_
                      obtain ⟨a1_held_53, a1_known_54, hc55, h⟩ := nh_b2_some h
                      refine nh_gov (nh_V (As := [.int x3_4, .int x4_20]) (rest := []) ⟨hx, hb, hml, hown, hts⟩ (kX1_swapBack  l D cI cZ cO H.size q_a1 q_a1_held q_a1_known q_a1_worths a1_count a1_held_50 a1_known_51 x3_4 x4_20 a1_held_53 a1_known_54 hc55) (cwV 2 hts (nh_gV nhw_668 nhw_426 nhw_687 nhw_303 nhw_136) rfl rfl rfl (by decide +kernel) ⟨by show 2 + 1 ≤ 3 + (d + 1); omega, by show 8 + (3 + 11) + 64 * 2 ≤ 64 * (3 + (d + 1)); omega⟩) hK hN hP hD (isC := [4, 5, 6]) rfl rfl 4 1 rfl rfl rfl rfl hl.1 rfl (Nat.le_of_ble_eq_true rfl) dX9_seek_87 ⟨Nat.zero_le _, Nat.zero_le _⟩) hP hD hS hA (isC := [4, 5, 6]) rfl rfl rfl (w' := (wlX9_seek cI cZ cO q_a0 q_a1 q_a0_wanted q_a0_bestRow q_a0_row q_a1_held q_a1_known q_a1_worths a0_best_46 a0_limit_47 a0_bestRow_48 a0_row_49 a0_wanted a1_count a1_held_53 a1_known_54)) rfl (fun H locs hP hD hS => ?_)
                      obtain ⟨x4_56, ex4_56⟩ : ∃ y : Int32, y = x4_20 + 1 := ⟨_, rfl⟩
                      replace h := nh_to h ex4_56
                      refine lv_iinc (v := x4_56) (lv' := [(4, .int x4_56), (0, .ref q_a0), (1, .ref q_a1), (2, .int i2), (3, .int x3_4)]) hx hb dX9_seek_90 hl (k := 4) rfl (by rw [ex4_56]; rfl) (by decide) rfl (fun ls hl => ?_)
                      refine lv_goto (tgt := 29) hx hb dX9_seek_93 (by decide) ?_
                      exact ih29 x4_56 a0_best_46 a0_limit_47 a0_bestRow_48 a0_row_49 a1_held_53 a1_known_54 H locs ls hP hD hS (lv_sub hl [1, 2, 3, 4, 0] rfl) h
            refine L29 _ (fun x4_27 a0_best_28 a0_limit_29 a0_bestRow_30 a0_row_31 a1_held_32 a1_known_33 H locs ls hP hD hS hl h => ?_) _ y_19 a0_best_5 a0_limit_6 a0_bestRow_7 a0_row_8 a1_held_9 a1_known_10 H locs ls hP hD hS (lv_sub hl [1, 2, 3, 4, 0] rfl) h
            obtain ⟨x3_57, ex3_57⟩ : ∃ y : Int32, y = x3_4 + 1 := ⟨_, rfl⟩
            replace h := nh_to h ex3_57
            refine lv_iinc (v := x3_57) (lv' := [(3, .int x3_57), (0, .ref q_a0), (1, .ref q_a1), (2, .int i2), (4, .int x4_27)]) hx hb dX9_seek_96 hl (k := 3) rfl (by rw [ex3_57]; rfl) (by decide) rfl (fun ls hl => ?_)
            refine lv_goto (tgt := 16) hx hb dX9_seek_99 (by decide) ?_
            exact ih16 x3_57 a0_best_28 a0_limit_29 a0_bestRow_30 a0_row_31 a1_held_32 a1_known_33 H locs ls hP hD hS (lv_sub hl [1, 2, 3, 0] rfl) h
      refine L16 _ (fun x3_11 a0_best_12 a0_limit_13 a0_bestRow_14 a0_row_15 a1_held_16 a1_known_17 H locs ls hP hD hS hl h => ?_) _ 0 a0_best a0_limit a0_bestRow a0_row a1_held a1_known H locs ls hP hD hS (lv_sub hl [1, 2, 3, 0] rfl) h
      obtain ⟨g0, g1, g2, g3, g4, g5⟩ := nh_i6 h
      exact nh_rv hx hb hr hlocks (by rw [← g0, ← g1, ← g2, ← g3, ← g4, ← g5]; exact hP) hS dX9_seek_102
    · replace h := nh_f h c3
      refine lv_aload_n hx hb dX9_seek_8 rfl (lv_at hl 0 rfl) ?_
      refine lv_iload_n hx hb dX9_seek_9 rfl (lv_at hl 2 rfl) ?_
      obtain ⟨a0_best_58, a0_limit_59, a0_bestRow_60, hc61, h⟩ := nh_b3_some h
      refine nh_gov (nh_V (As := [.int i2]) (rest := []) ⟨hx, hb, hml, hown, hts⟩ (kX9_takeRow  l D cI cZ cO H.size q_a0 q_a0_wanted q_a0_bestRow q_a0_row a0_best a0_limit a0_bestRow a0_row i2 a0_best_58 a0_limit_59 a0_bestRow_60 hc61) (cwV 1 hts (nh_gV nhw_665 nhw_454 nhw_799 nhw_313 nhw_181) rfl rfl rfl (by decide +kernel) ⟨by show 2 + 1 ≤ 3 + (d + 1); omega, by show 8 + (2 + 11) + 64 * 2 ≤ 64 * (3 + (d + 1)); omega⟩) hK hN hP hD (isC := [0, 1, 2]) rfl rfl 0 8 rfl rfl rfl rfl hl.1 rfl (Nat.le_of_ble_eq_true rfl) dX9_seek_10 ⟨Nat.zero_le _, Nat.zero_le _⟩) hP hD hS hA (isC := [0, 1, 2]) rfl rfl rfl (w' := (wlX9_seek cI cZ cO q_a0 q_a1 q_a0_wanted q_a0_bestRow q_a0_row q_a1_held q_a1_known q_a1_worths a0_best_58 a0_limit_59 a0_bestRow_60 a0_row a0_wanted a1_count a1_held a1_known)) rfl (fun H locs hP hD hS => ?_)
      obtain ⟨g0, g1, g2, g3, g4, g5⟩ := nh_i6 h
      exact nh_rv hx hb hr hlocks (by rw [← g0, ← g1, ← g2, ← g3, ← g4, ← g5]; exact hP) hS dX9_seek_13
abbrev wlX9_seekAll (cI cZ cO : ClassId) (q_t q_a1 q_t_wanted q_t_bestRow q_t_row q_a1_held q_a1_known q_a1_worths : Nat) (t_best : Int32) (t_limit : Int32) (t_bestRow : Nat → Int32) (t_row : Nat → Int32) (t_wanted : Nat → Int32) (a1_count : Int32) (a1_held : Nat → Int32) (a1_known : Nat → Int32) : va_W := [(q_t, .inr (8, [.ref q_t_wanted, .int t_best, .ref q_t_bestRow, .ref q_t_row, .int t_limit])), (q_t_bestRow, .inl (cI, 12, .inl t_bestRow)), (q_t_row, .inl (cI, 12, .inl t_row)), (q_t_wanted, .inl (cI, 4, .inl t_wanted)), (q_a1, .inr (1, [.int a1_count, .ref q_a1_held, .ref q_a1_known, .ref q_a1_worths])), (q_a1_held, .inl (cI, 4, .inl a1_held)), (q_a1_known, .inl (cI, 4, .inl a1_known))]
def fX9_seekAll (F : Nat) (t_best : Int32) (t_limit : Int32) (t_bestRow : Nat → Int32) (t_row : Nat → Int32) (t_wanted : Nat → Int32) (a1_count : Int32) (a1_held : Nat → Int32) (a1_known : Nat → Int32) : Option (Int32 × Int32 × (Nat → Int32) × (Nat → Int32) × (Nat → Int32) × (Nat → Int32)) :=
  nh_b6 (fX9_seek F 20 (-9) 12 t_bestRow t_row t_wanted a1_count a1_held a1_known 0) (fun t_best_1 t_limit_2 t_bestRow_3 t_row_4 a1_held_5 a1_known_6 => some (t_best_1, t_limit_2, t_bestRow_3, t_row_4, a1_held_5, a1_known_6))
set_option maxHeartbeats 4000000 in
set_option maxRecDepth 100000 in
theorem kX9_seekAll (F : Nat) (l : Launch) (D : va_G) (cI cZ cO : ClassId) (sz : Nat) (q_t q_a1 q_t_wanted q_t_bestRow q_t_row q_a1_held q_a1_known q_a1_worths : Nat) (t_best : Int32) (t_limit : Int32) (t_bestRow : Nat → Int32) (t_row : Nat → Int32) (t_wanted : Nat → Int32) (a1_count : Int32) (a1_held : Nat → Int32) (a1_known : Nat → Int32)  (o_t_best : Int32) (o_t_limit : Int32) (o_t_bestRow : Nat → Int32) (o_t_row : Nat → Int32) (o_a1_held : Nat → Int32) (o_a1_known : Nat → Int32) (h : fX9_seekAll F t_best t_limit t_bestRow t_row t_wanted a1_count a1_held a1_known = some (o_t_best, o_t_limit, o_t_bestRow, o_t_row, o_a1_held, o_a1_known)) : Met l yX9_seekAll (nh_w (.code yX9_seekAll cX9_seekAll 2 none)) (nh_rm 24) (nh_Pc D cI cZ cO (wlX9_seekAll cI cZ cO q_t q_a1 q_t_wanted q_t_bestRow q_t_row q_a1_held q_a1_known q_a1_worths t_best t_limit t_bestRow t_row t_wanted a1_count a1_held a1_known) [.ref q_t, .ref q_a1] sz) ((nh_Qv D (wlX9_seekAll cI cZ cO q_t q_a1 q_t_wanted q_t_bestRow q_t_row q_a1_held q_a1_known q_a1_worths o_t_best o_t_limit o_t_bestRow o_t_row t_wanted a1_count o_a1_held o_a1_known)) (va_A (wlX9_seekAll cI cZ cO q_t q_a1 q_t_wanted q_t_bestRow q_t_row q_a1_held q_a1_known q_a1_worths t_best t_limit t_bestRow t_row t_wanted a1_count a1_held a1_known) sz)) 0 0 (va_A (wlX9_seekAll cI cZ cO q_t q_a1 q_t_wanted q_t_bestRow q_t_row q_a1_held q_a1_known q_a1_worths t_best t_limit t_bestRow t_row t_wanted a1_count a1_held a1_known) sz) := by
  unfold fX9_seekAll at h
  refine nh_met (cc := cX9_seekAll) (maxL := 2) (ret := none) (nh_Qv D (wlX9_seekAll cI cZ cO q_t q_a1 q_t_wanted q_t_bestRow q_t_row q_a1_held q_a1_known q_a1_worths o_t_best o_t_limit o_t_bestRow o_t_row t_wanted a1_count o_a1_held o_a1_known)) (by decide) rfl (Nat.le_of_ble_eq_true rfl) ?_
  intro p e s m args below meth c A H locs ls hx hb hml hr hown hts hlocks hinit hP hK hN hD hA hS hl
  have hl : lv_has ls 2 [(0, .ref q_t), (1, .ref q_a1)] := hl
  have hts : ∀ w ∈ nh_words, w.before args s = true := fun w h => hts w (List.mem_cons_of_mem _ h)
  refine lv_aload_n hx hb dX9_seekAll_0 rfl (lv_at hl 0 rfl) ?_
  refine lv_bipush (v := (-9)) hx hb dX9_seekAll_1 (by decide) ?_
  refine va_put (D := D) (ci := 8) (v := .int (-9)) (ty := .int) (C := RX9) (T := TX9) (N := 5) hx hb hts nhu_X9 tyX9 tyX9_ok nmX9 hown hK hP hD hS 0 rfl rfl 1 (by decide) (hts _ nhw_296) (fun _ h9 => h9) rfl (by decide +kernel) rfl rfl (Nat.le_of_ble_eq_true rfl) dX9_seekAll_3 (fun H locs hP hD hS => ?_)
  have hP : va_P D vwCl (wlX9_seekAll cI cZ cO q_t q_a1 q_t_wanted q_t_bestRow q_t_row q_a1_held q_a1_known q_a1_worths (-9) t_limit t_bestRow t_row t_wanted a1_count a1_held a1_known) H := hP
  have hD : va_D A (wlX9_seekAll cI cZ cO q_t q_a1 q_t_wanted q_t_bestRow q_t_row q_a1_held q_a1_known q_a1_worths (-9) t_limit t_bestRow t_row t_wanted a1_count a1_held a1_known) := hD
  refine lv_aload_n hx hb dX9_seekAll_6 rfl (lv_at hl 0 rfl) ?_
  refine lv_bipush (v := 12) hx hb dX9_seekAll_7 (by decide) ?_
  refine va_put (D := D) (ci := 8) (v := .int 12) (ty := .int) (C := RX9) (T := TX9) (N := 5) hx hb hts nhu_X9 tyX9 tyX9_ok nmX9 hown hK hP hD hS 0 rfl rfl 4 (by decide) (hts _ nhw_297) (fun _ h9 => h9) rfl (by decide +kernel) rfl rfl (Nat.le_of_ble_eq_true rfl) dX9_seekAll_9 (fun H locs hP hD hS => ?_)
  have hP : va_P D vwCl (wlX9_seekAll cI cZ cO q_t q_a1 q_t_wanted q_t_bestRow q_t_row q_a1_held q_a1_known q_a1_worths (-9) 12 t_bestRow t_row t_wanted a1_count a1_held a1_known) H := hP
  have hD : va_D A (wlX9_seekAll cI cZ cO q_t q_a1 q_t_wanted q_t_bestRow q_t_row q_a1_held q_a1_known q_a1_worths (-9) 12 t_bestRow t_row t_wanted a1_count a1_held a1_known) := hD
  refine lv_aload_n hx hb dX9_seekAll_12 rfl (lv_at hl 0 rfl) ?_
  refine lv_aload_n hx hb dX9_seekAll_13 rfl (lv_at hl 1 rfl) ?_
  refine lv_iconst (v := 0) hx hb dX9_seekAll_14 (by decide) ?_
  obtain ⟨t_best_1, t_limit_2, t_bestRow_3, t_row_4, a1_held_5, a1_known_6, hc7, h⟩ := nh_b6_some h
  refine nh_gov (nh_S (As := [.ref q_t, .ref q_a1, .int 0]) (rest := []) ⟨hx, hb, hml, hown, hts⟩ (kX9_seek F 20 l D cI cZ cO H.size q_t q_a1 q_t_wanted q_t_bestRow q_t_row q_a1_held q_a1_known q_a1_worths (-9) 12 t_bestRow t_row t_wanted a1_count a1_held a1_known 0 t_best_1 t_limit_2 t_bestRow_3 t_row_4 a1_held_5 a1_known_6 hc7) (va_cwS 3 hts (nh_gS nhw_663 nhw_828 nhw_313 nhw_179) rfl rfl rfl (by decide +kernel) ⟨Nat.le_of_ble_eq_true rfl, Nat.le_of_ble_eq_true rfl⟩) hK hN hP hD (isC := [0, 1, 2, 3, 4, 5, 6]) rfl rfl rfl hl.1 rfl (Nat.le_of_ble_eq_true rfl) dX9_seekAll_15 ⟨Nat.zero_le _, Nat.zero_le _⟩) hP hD hS hA (isC := [0, 1, 2, 3, 4, 5, 6]) rfl rfl rfl (w' := (wlX9_seekAll cI cZ cO q_t q_a1 q_t_wanted q_t_bestRow q_t_row q_a1_held q_a1_known q_a1_worths t_best_1 t_limit_2 t_bestRow_3 t_row_4 t_wanted a1_count a1_held_5 a1_known_6)) rfl (fun H locs hP hD hS => ?_)
  obtain ⟨g0, g1, g2, g3, g4, g5⟩ := nh_i6 h
  exact nh_rv hx hb hr hlocks (by rw [← g0, ← g1, ← g2, ← g3, ← g4, ← g5]; exact hP) hS dX9_seekAll_18
