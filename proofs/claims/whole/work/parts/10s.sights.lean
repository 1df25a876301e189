/-! sights: kept alike on both sides -/
def sOk (m : Nat) (sc tc sm tm : Nat → Int32) : Prop := m ≤ 8 ∧ ∀ i, i < m → sc i = sm i ∧ tc i = tm i ∧ ∃ s : Nat, s < 6 ∧ sc i = Int32.ofNat s
theorem pair_sight {m : Nat} {sc tc sm tm : Nat → Int32} (o : sOk m sc tc sm tm) (a b th : Int32) : ∃ (r : Int32) (m' : Nat) (sc' tc' sm' tm' : Nat → Int32), fX10_sight (Int32.ofNat m) sc tc a b = some (r, Int32.ofNat m', sc', tc') ∧ fX11_sight th (Int32.ofNat m) sm tm a b = some (r, 0, Int32.ofNat m', sm', tm') ∧ sOk m' sc' tc' sm' tm' := by
  have h8 := o.1
  unfold fX10_sight fX11_sight
  rcases mM_noSort_or a with ⟨f1, f2⟩ | ⟨s, hs, rfl, f1, f2⟩
  · exact ⟨-1, m, sc, tc, sm, tm, by rw [f2, if_pos rfl], by rw [f1, if_neg (by decide)], o⟩
  · by_cases e : m = 8
    · refine ⟨-4, m, sc, tc, sm, tm, ?_, ?_, o⟩
      · rw [f2, if_neg (by decide), if_neg (show ¬ Int32.ofNat m < 8 from fun z => absurd ((z_lt (a := m) (b := 8) (by omega) (by omega)).mp z) (by omega))]
      · rw [f1, if_pos rfl, if_pos (show Int32.ofNat m = 8 by rw [e]; rfl)]
    · refine ⟨Int32.ofNat (m + 1), m + 1, upd sc m (Int32.ofNat s), upd tc m (vp_nar .boolean b), upd sm m (Int32.ofNat s), upd tm m (vp_nar .boolean b), ?_, ?_, by omega, fun i hi => ?_⟩
      · rw [f2, if_neg (by decide), if_pos (show Int32.ofNat m < 8 from (z_lt (a := m) (b := 8) (by omega) (by omega)).mpr (by omega))]
        unfold fX5_add
        rw [if_neg (show ¬ (8 : Int32) ≤ Int32.ofNat m from fun z => absurd ((z_le (a := 8) (b := m) (by omega) (by omega)).mp z) (by omega))]
        simp only [z_chk (show m < 8 by omega) (show 8 < 2147483648 by omega), z_ix (show m < 2147483648 by omega), nh_let, z_succ, nh_b3]
      · rw [f1, if_pos rfl, if_neg (show ¬ Int32.ofNat m = 8 from fun z => e ((z_eq (a := m) (b := 8) (by omega) (by omega)).mp z))]
        simp only [z_chk (show m < 8 by omega) (show 8 < 2147483648 by omega), z_ix (show m < 2147483648 by omega), nh_let, z_succ]
      · by_cases g : i = m
        · subst g; simp only [upd_same]; exact ⟨trivial, trivial, s, hs, rfl⟩
        · rw [upd_ne g, upd_ne g, upd_ne g, upd_ne g]; exact o.2 i (by omega)
