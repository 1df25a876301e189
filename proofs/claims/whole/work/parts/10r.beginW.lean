/-! begin: the two sides answer alike -/
section BEGIN
variable {n : Nat} {h k : Nat → Nat} {hd kn had holds : Nat → Int32}
theorem pair_begin (ok : pOk n h k) (c : pC n h k hd kn) (cm : pM n h k had holds 0) (a : Int32) : ∀ F, UBF ≤ F → ∀ (th lo sh ru ca : Int32) (tried : Nat → Int32), ∃ r lo' sh' ru' ca' had' holds' tried', fX10_begin F (Int32.ofNat n) hd kn a = some (r, hd, kn) ∧ fX11_begin F th (Int32.ofNat n) lo sh ru ca had holds tried a = some (r, 0, lo', sh', ru', ca', had', holds', tried') ∧ pM n h k had' holds' 0 := by
  have hn := ok.1
  unfold fX10_begin fX11_begin
  rcases mM_noOne_or hn a with ⟨e1, e2⟩ | ⟨p, hp, rfl, e1, e2⟩
  · exact fun F hF th lo sh ru ca tried => ⟨-1, lo, sh, ru, ca, had, holds, tried, by rw [e2, if_pos rfl], by rw [e1, if_neg (by decide)], cm⟩
  · have v := (ok.2 p hp).1
    have q := cm p hp
    rw [Nat.mul_zero, Nat.zero_add] at q
    simp only [e2, e1, show ((1 : Int32) = 0) = False from eq_false (by decide), show ((0 : Int32) = 0) = True from eq_true rfl, if_false, if_true, z_chk (show p < 4 by omega) (show 4 < 2147483648 by omega), z_chk (show p < 56 by omega) (show 56 < 2147483648 by omega), z_ix (show p < 2147483648 by omega), nh_let, (c p hp).1, q.1]
    by_cases h6 : h p = 6
    · refine fun F hF th lo sh ru ca tried => ⟨-3, lo, sh, ru, ca, had, holds, tried, ?_, ?_, cm⟩
      · rw [if_pos ((cH_ne v).mpr h6)]
      · rw [if_pos ((z_eq6 v).mpr h6)]
    · intro F hU th lo sh ru ca tried
      have hF : 60 + stB n p h k ≤ F := Nat.le_trans (ub_stB n p h k) hU
      rw [if_neg (fun z => h6 ((cH_ne v).mp z)), if_neg (fun z => h6 ((z_eq6 v).mp z)), aC_begin ok c hp (by omega)]
      obtain ⟨K, hK⟩ : ∃ K : Int32 → Int32 → Int32 → Int32 → Int32 → Int32 → Int32 → (Nat → Int32) → (Nat → Int32) → (Nat → Int32) → Option (Int32 × Int32 × Int32 × Int32 × Int32 × Int32 × (Nat → Int32) × (Nat → Int32) × (Nat → Int32)), K = (fun x4_18 x5_19 x6_20 t_longest_21 t_shortest_22 t_runs_23 t_came_24 t_had_25 t_holds_26 t_tried_27 => some (x4_18, 0, t_longest_21, t_shortest_22, t_runs_23, t_came_24, upd t_had_25 p (had p), upd t_holds_26 p (Int32.ofNat (h p)), t_tried_27)) := ⟨_, rfl⟩
      obtain ⟨lo', sh', ru', ca', had', holds', tried', g1, g2⟩ := mM_begin_loop ok cm hp hF K 6 0 F (-9, 0) lo sh ru ca had holds tried (by omega) (by omega) (by omega) (fun q _ _ => ⟨rfl, rfl⟩)
      refine ⟨((List.range' 0 6).foldl (begF n p h k) (0, 0)).1, lo', sh', ru', ca', upd had' p (had p), upd holds' p (Int32.ofNat (h p)), tried', rfl, ?_, fun x hx => ?_⟩
      · rw [← hK]
        refine g2.trans ?_
        rw [hK, beg_same ok hp (-9) 0]
      · rw [Nat.mul_zero, Nat.zero_add]
        by_cases e : x = p
        · subst e; rw [upd_same, upd_same]; exact ⟨rfl, q.2⟩
        · rw [upd_ne e, upd_ne e, (g1 x (by omega) e).1, (g1 x (by omega) e).2]
          have := cm x hx
          rw [Nat.mul_zero, Nat.zero_add] at this
          exact this
end BEGIN
