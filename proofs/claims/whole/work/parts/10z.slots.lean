/-! keep, again: the two sides alike -/
def slOk (n : Nat) (fl : Int32) (sh sk : Nat → Int32) (iK : Int32) (kept : Nat → Int32) (s : Nat) : Prop := (fl = 0 ∧ iK = 0) ∨ (fl = 1 ∧ iK = 1 ∧ ∃ h k, pOk n h k ∧ pC n h k sh sk ∧ ∀ p, p < n → kept (8 * s + p) = Int32.ofNat (h p) ∧ kept (8 * s + 4 + p) = Int32.ofNat (k p))
theorem slOk_frame {n : Nat} {fl : Int32} {sh sk : Nat → Int32} {iK : Int32} {kept kept' : Nat → Int32} {s : Nat} (hn : n ≤ 4) (o : slOk n fl sh sk iK kept s) (e : ∀ q, 8 * s ≤ q → q < 8 * s + 8 → kept' q = kept q) : slOk n fl sh sk iK kept' s := by
  rcases o with o | ⟨o1, o2, h, k, o3, o4, o5⟩
  · exact Or.inl o
  · refine Or.inr ⟨o1, o2, h, k, o3, o4, fun p hp => ?_⟩
    rw [e _ (by omega) (by omega), e _ (by omega) (by omega)]
    exact o5 p hp
theorem z_row8 (d p : Nat) : (8 : Int32) * Int32.ofNat d + Int32.ofNat p = Int32.ofNat (8 * d + p) := by
  rw [show (8 : Int32) = Int32.ofNat 8 from rfl, z_mul, z_add]
theorem z_row84 (d p : Nat) : (8 : Int32) * Int32.ofNat d + 4 + Int32.ofNat p = Int32.ofNat (8 * d + 4 + p) := by
  rw [show (8 : Int32) = Int32.ofNat 8 from rfl, show (4 : Int32) = Int32.ofNat 4 from rfl, z_mul, z_add, z_add]
theorem z_slot (a : Int32) : (fX10_isSlot a = 0 ∧ fX11_in (Int32.toInt64 a) 0 1 = 0) ∨ a = 0 ∨ a = 1 := by
  have hin : fX11_in (Int32.toInt64 a) 0 1 = b01 (decide (0 ≤ a ∧ a ≤ 1)) := by
    rw [show (0 : Int64) = Int32.toInt64 0 from rfl, show (1 : Int64) = Int32.toInt64 1 from rfl, mM_in]
  rw [hin]
  unfold fX10_isSlot
  rcases z_cases a with g | ⟨K, rfl, hK⟩
  · left
    rw [if_pos g, decide_eq_false (fun z => Int32.not_lt.mpr z.1 g)]
    exact ⟨rfl, rfl⟩
  · by_cases h2 : 2 ≤ K
    · left
      rw [if_neg (z_nn hK), if_pos (show (2 : Int32) ≤ Int32.ofNat K from (z_le (a := 2) (b := K) (by omega) hK).mpr h2), decide_eq_false (fun z => by
        have := (z_le (a := K) (b := 1) hK (by omega)).mp z.2
        omega)]
      exact ⟨rfl, rfl⟩
    · right
      rcases (show K = 0 ∨ K = 1 by omega) with rfl | rfl
      · exact Or.inl rfl
      · exact Or.inr rfl
section SLOTS
variable {n : Nat} {h k : Nat → Nat} {hd kn had holds : Nat → Int32}
theorem mM_keep_loop {s : Nat} (hs : s < 2) (kk : Int32 → (Nat → Int32) → Option (Int32 × Int32 × (Nat → Int32) × (Nat → Int32))) : ∀ (j i N : Nat) (kept : Nat → Int32), i + j = 4 → j < N → (∀ p, p < i → kept (8 * s + p) = holds p ∧ kept (8 * s + 4 + p) = had p) → ∃ kept', fX11_keep_L26 had holds (Int32.ofNat s) kk N (Int32.ofNat i) kept = kk 4 kept' ∧ (∀ p, p < 4 → kept' (8 * s + p) = holds p ∧ kept' (8 * s + 4 + p) = had p) ∧ ∀ q, q < 8 * s ∨ 8 * s + 8 ≤ q → kept' q = kept q := by
  intro j
  induction j with
  | zero =>
    intro i N kept hi hN a
    obtain ⟨N, rfl⟩ : ∃ M, N = M + 1 := ⟨N - 1, by omega⟩
    refine ⟨kept, ?_, fun p hp => a p (by omega), fun _ _ => rfl⟩
    show fX11_keep_B26 _ _ _ _ _ _ _ = _
    unfold fX11_keep_B26
    rw [show i = 4 by omega, if_pos (by decide)]; rfl
  | succ j ih =>
    intro i N kept hi hN a
    obtain ⟨N, rfl⟩ : ∃ M, N = M + 1 := ⟨N - 1, by omega⟩
    obtain ⟨kept', e1, e2, e3⟩ := ih (i + 1) N (upd (upd kept (8 * s + i) (holds i)) (8 * s + 4 + i) (had i)) (by omega) (by omega) (fun p hp => by
      by_cases e : p = i
      · subst e; rw [upd_same, upd_ne (by omega), upd_same]; exact ⟨rfl, rfl⟩
      · rw [upd_ne (by omega), upd_ne (by omega), upd_ne (by omega), upd_ne (by omega)]; exact a p (by omega))
    refine ⟨kept', ?_, e2, fun q hq => by rw [e3 q hq, upd_ne (by omega), upd_ne (by omega)]⟩
    show fX11_keep_B26 _ _ _ _ _ _ _ = _
    unfold fX11_keep_B26
    rw [if_neg (show ¬ (4 : Int32) ≤ Int32.ofNat i from fun z => absurd ((z_le (a := 4) (b := i) (by omega) (by omega)).mp z) (by omega))]
    simp only [z_row8, z_row84, z_chk (show i < 56 by omega) (show 56 < 2147483648 by omega), z_chk (show 8 * s + i < 16 by omega) (show 16 < 2147483648 by omega), z_chk (show 8 * s + 4 + i < 16 by omega) (show 16 < 2147483648 by omega), z_ix (show i < 2147483648 by omega), z_ix (show 8 * s + i < 2147483648 by omega), z_ix (show 8 * s + 4 + i < 2147483648 by omega), nh_let, z_succ]
    exact e1
theorem mM_again_loop {s : Nat} (hs : s < 2) {kept : Nat → Int32} (kk : Int32 → (Nat → Int32) → (Nat → Int32) → Option (Int32 × Int32 × Int32 × (Nat → Int32) × (Nat → Int32))) : ∀ (j i N : Nat) (had holds : Nat → Int32), i + j = 4 → j < N → (∀ p, p < i → holds p = kept (8 * s + p) ∧ had p = kept (8 * s + 4 + p)) → ∃ had' holds', fX11_again_L31 kept (Int32.ofNat s) kk N (Int32.ofNat i) had holds = kk 4 had' holds' ∧ (∀ p, p < 4 → holds' p = kept (8 * s + p) ∧ had' p = kept (8 * s + 4 + p)) := by
  intro j
  induction j with
  | zero =>
    intro i N had holds hi hN a
    obtain ⟨N, rfl⟩ : ∃ M, N = M + 1 := ⟨N - 1, by omega⟩
    refine ⟨had, holds, ?_, fun p hp => a p (by omega)⟩
    show fX11_again_B31 _ _ _ _ _ _ _ = _
    unfold fX11_again_B31
    rw [show i = 4 by omega, if_pos (by decide)]; rfl
  | succ j ih =>
    intro i N had holds hi hN a
    obtain ⟨N, rfl⟩ : ∃ M, N = M + 1 := ⟨N - 1, by omega⟩
    obtain ⟨had', holds', e1, e2⟩ := ih (i + 1) N (upd had i (kept (8 * s + 4 + i))) (upd holds i (kept (8 * s + i))) (by omega) (by omega) (fun p hp => by
      by_cases e : p = i
      · subst e; rw [upd_same, upd_same]; exact ⟨rfl, rfl⟩
      · rw [upd_ne e, upd_ne e]; exact a p (by omega))
    refine ⟨had', holds', ?_, e2⟩
    show fX11_again_B31 _ _ _ _ _ _ _ = _
    unfold fX11_again_B31
    rw [if_neg (show ¬ (4 : Int32) ≤ Int32.ofNat i from fun z => absurd ((z_le (a := 4) (b := i) (by omega) (by omega)).mp z) (by omega))]
    simp only [z_row8, z_row84, z_chk (show i < 56 by omega) (show 56 < 2147483648 by omega), z_chk (show 8 * s + i < 16 by omega) (show 16 < 2147483648 by omega), z_chk (show 8 * s + 4 + i < 16 by omega) (show 16 < 2147483648 by omega), z_ix (show i < 2147483648 by omega), z_ix (show 8 * s + i < 2147483648 by omega), z_ix (show 8 * s + 4 + i < 2147483648 by omega), nh_let, z_succ]
    exact e1
theorem z_cp44 : nh_cp 0 0 4 4 4 = true := by decide +kernel
theorem slOk_new (ok : pOk n h k) (c : pC n h k hd kn) (cm : pM n h k had holds 0) {s : Nat} {kept' sh sk : Nat → Int32} (e : ∀ p, p < 4 → kept' (8 * s + p) = holds p ∧ kept' (8 * s + 4 + p) = had p) : slOk n 1 (va_cpy hd sh (Int32.toNatClampNeg (0 : Int32)) (Int32.toNatClampNeg (0 : Int32)) (Int32.toNatClampNeg (4 : Int32))) (va_cpy kn sk (Int32.toNatClampNeg (0 : Int32)) (Int32.toNatClampNeg (0 : Int32)) (Int32.toNatClampNeg (4 : Int32))) 1 kept' s := by
  have hn := ok.1
  refine Or.inr ⟨rfl, rfl, h, k, ok, fun p hp => ?_, fun p hp => ?_⟩
  · rw [cpy4 (by omega), cpy4 (by omega)]; exact c p hp
  · have := cm p hp
    rw [Nat.mul_zero, Nat.zero_add] at this
    rw [(e p (by omega)).1, (e p (by omega)).2]; exact this
theorem pair_keep (ok : pOk n h k) (c : pC n h k hd kn) (cm : pM n h k had holds 0) {f0 f1 : Int32} {h0 k0 h1 k1 isK kept : Nat → Int32} (s0 : slOk n f0 h0 k0 (isK 0) kept 0) (s1 : slOk n f1 h1 k1 (isK 1) kept 1) {F : Nat} (hF : 10 ≤ F) (a th : Int32) : ∃ r f0' h0' k0' f1' h1' k1' isK' kept', fX10_keep F (Int32.ofNat n) hd kn f0 h0 k0 f1 h1 k1 a = some (r, f0', h0', k0', f1', h1', k1') ∧ fX11_keep F th (Int32.ofNat n) had holds isK kept a = some (r, 0, isK', kept') ∧ slOk n f0' h0' k0' (isK' 0) kept' 0 ∧ slOk n f1' h1' k1' (isK' 1) kept' 1 := by
  have hn := ok.1
  unfold fX10_keep fX11_keep
  rcases z_slot a with ⟨e1, e2⟩ | rfl | rfl
  · exact ⟨-1, f0, h0, k0, f1, h1, k1, isK, kept, by rw [e1, if_pos rfl], by rw [e2, if_pos rfl], s0, s1⟩
  · obtain ⟨kept', g1, g2, g3⟩ := mM_keep_loop (had := had) (holds := holds) (s := 0) (by omega) (fun x2_6 t_kept_7 => nh_b1 (fX11_holding F (Int32.ofNat n) holds) (fun r_16 => some (r_16, 0, upd isK 0 1, t_kept_7))) 4 0 F kept (by omega) (by omega) (fun p hp => absurd hp (Nat.not_lt_zero p))
    have g1 : fX11_keep_L26 had holds 0 (fun x2_6 t_kept_7 => nh_b1 (fX11_holding F (Int32.ofNat n) holds) (fun r_16 => some (r_16, 0, upd isK 0 1, t_kept_7))) F 0 kept = _ := g1
    refine ⟨Int32.ofNat (smN (holB h) n), 1, _, _, f1, h1, k1, upd isK 0 1, kept', ?_, ?_, by rw [upd_same]; exact slOk_new (sh := h0) (sk := k0) ok c cm g2, by rw [upd_ne (by decide)]; exact slOk_frame hn s1 (fun q h1 h2 => g3 q (by omega))⟩
    · rw [if_neg (by decide), if_pos rfl]
      unfold fX6_store
      rw [z_cp44]
      simp only [chk_t, nh_let, nh_b3]
      rw [aC_holders ok c (by omega)]
      rfl
    · rw [if_neg (by decide), show nh_in 0 2 = true by decide, chk_t]
      simp only [nh_let]
      refine (show _ = _ from g1).trans ?_
      rw [mM_holding ok cm (by omega)]
      rfl
  · obtain ⟨kept', g1, g2, g3⟩ := mM_keep_loop (had := had) (holds := holds) (s := 1) (by omega) (fun x2_6 t_kept_7 => nh_b1 (fX11_holding F (Int32.ofNat n) holds) (fun r_16 => some (r_16, 0, upd isK 1 1, t_kept_7))) 4 0 F kept (by omega) (by omega) (fun p hp => absurd hp (Nat.not_lt_zero p))
    have g1 : fX11_keep_L26 had holds 1 (fun x2_6 t_kept_7 => nh_b1 (fX11_holding F (Int32.ofNat n) holds) (fun r_16 => some (r_16, 0, upd isK 1 1, t_kept_7))) F 0 kept = _ := g1
    refine ⟨Int32.ofNat (smN (holB h) n), f0, h0, k0, 1, _, _, upd isK 1 1, kept', ?_, ?_, by rw [upd_ne (by decide)]; exact slOk_frame hn s0 (fun q h1 h2 => g3 q (by omega)), by rw [upd_same]; exact slOk_new (sh := h1) (sk := k1) ok c cm g2⟩
    · rw [if_neg (by decide), if_neg (by decide), if_pos rfl]
      unfold fX6_store
      rw [z_cp44]
      simp only [chk_t, nh_let, nh_b3]
      rw [aC_holders ok c (by omega)]
      rfl
    · rw [if_neg (by decide), show nh_in 1 2 = true by decide, chk_t]
      simp only [nh_let]
      refine (show _ = _ from g1).trans ?_
      rw [mM_holding ok cm (by omega)]
      rfl
theorem again_one {s : Nat} (hs : s < 2) {sh sk : Nat → Int32} {kept : Nat → Int32} {h' k' : Nat → Nat} (ok : pOk n h' k') (c : pC n h' k' sh sk) (e : ∀ p, p < n → kept (8 * s + p) = Int32.ofNat (h' p) ∧ kept (8 * s + 4 + p) = Int32.ofNat (k' p)) {F : Nat} (hF : 10 ≤ F) (hd kn had holds : Nat → Int32) : ∃ hd' kn' had' holds', nh_b2 (fX6_restore sh sk hd kn) (fun t_people_held_7 t_people_known_8 => nh_b1 (fX1_holders F (Int32.ofNat n) t_people_held_7) (fun r_10 => some (r_10, (0 : Int32), t_people_held_7, t_people_known_8))) = some (Int32.ofNat (smN (holB h') n), 0, hd', kn') ∧ fX11_again_L31 kept (Int32.ofNat s) (fun x2_7 t_had_8 t_holds_9 => nh_b1 (fX11_holding F (Int32.ofNat n) t_holds_9) (fun r_18 => some (r_18, 0, 0, t_had_8, t_holds_9))) F 0 had holds = some (Int32.ofNat (smN (holB h') n), 0, 0, had', holds') ∧ pC n h' k' hd' kn' ∧ pM n h' k' had' holds' 0 := by
  have hn := ok.1
  obtain ⟨had', holds', g1, g2⟩ := mM_again_loop hs (kept := kept) (fun x2_7 t_had_8 t_holds_9 => nh_b1 (fX11_holding F (Int32.ofNat n) t_holds_9) (fun r_18 => some (r_18, 0, 0, t_had_8, t_holds_9))) 4 0 F had holds (by omega) (by omega) (fun p hp => absurd hp (Nat.not_lt_zero p))
  have pc : pC n h' k' (va_cpy sh hd (Int32.toNatClampNeg (0 : Int32)) (Int32.toNatClampNeg (0 : Int32)) (Int32.toNatClampNeg (4 : Int32))) (va_cpy sk kn (Int32.toNatClampNeg (0 : Int32)) (Int32.toNatClampNeg (0 : Int32)) (Int32.toNatClampNeg (4 : Int32))) := fun p hp => by
    rw [cpy4 (by omega), cpy4 (by omega)]; exact c p hp
  have pm : pM n h' k' had' holds' 0 := fun p hp => by
    rw [Nat.mul_zero, Nat.zero_add, (g2 p (by omega)).1, (g2 p (by omega)).2]; exact e p hp
  refine ⟨_, _, had', holds', ?_, ?_, pc, pm⟩
  · unfold fX6_restore
    rw [z_cp44]
    simp only [chk_t, nh_let, nh_b2]
    rw [aC_holders ok pc (by omega)]
    rfl
  · refine (show _ = _ from g1).trans ?_
    rw [mM_holding ok pm (by omega)]
    rfl
theorem pair_again {f0 f1 : Int32} {h0 k0 h1 k1 isK kept : Nat → Int32} (s0 : slOk n f0 h0 k0 (isK 0) kept 0) (s1 : slOk n f1 h1 k1 (isK 1) kept 1) {F : Nat} (hF : 10 ≤ F) (ac a th : Int32) (hd kn had holds : Nat → Int32) : ∃ r ac' hd' kn' had' holds', fX10_again F ac (Int32.ofNat n) hd kn f0 h0 k0 f1 h1 k1 a = some (r, ac', hd', kn') ∧ fX11_again F th (Int32.ofNat n) ac had holds isK kept a = some (r, 0, ac', had', holds') ∧ ((ac' = ac ∧ hd' = hd ∧ kn' = kn ∧ had' = had ∧ holds' = holds) ∨ (ac' = 0 ∧ ∃ h' k', pOk n h' k' ∧ pC n h' k' hd' kn' ∧ pM n h' k' had' holds' 0)) := by
  unfold fX10_again fX11_again
  rcases z_slot a with ⟨e1, e2⟩ | rfl | rfl
  · exact ⟨-1, ac, hd, kn, had, holds, by rw [e1, if_pos rfl], by rw [e2, if_pos rfl], Or.inl ⟨rfl, rfl, rfl, rfl, rfl⟩⟩
  · rw [if_neg (show ¬ fX10_isSlot 0 = 0 by decide), if_pos rfl, if_neg (show ¬ fX11_in (Int32.toInt64 0) 0 1 = 0 by decide), show nh_in 0 2 = true by decide, chk_t, show Int32.toNatClampNeg (0 : Int32) = 0 from rfl]
    rcases s0 with ⟨z1, z2⟩ | ⟨z1, z2, h', k', ok', c', e'⟩
    · exact ⟨-3, ac, hd, kn, had, holds, by rw [if_pos z1], by rw [if_pos z2], Or.inl ⟨rfl, rfl, rfl, rfl, rfl⟩⟩
    · obtain ⟨hd', kn', had', holds', g1, g2, g3, g4⟩ := again_one (s := 0) (by omega) ok' c' e' hF hd kn had holds
      refine ⟨Int32.ofNat (smN (holB h') n), 0, hd', kn', had', holds', ?_, ?_, Or.inr ⟨rfl, h', k', ok', g3, g4⟩⟩
      · rw [if_neg (show ¬ f0 = 0 by rw [z1]; decide), if_pos rfl]; exact g1
      · rw [if_neg (show ¬ isK 0 = 0 by rw [z2]; decide)]; exact g2
  · rw [if_neg (show ¬ fX10_isSlot 1 = 0 by decide), if_neg (show ¬ (1 : Int32) = 0 by decide), if_pos rfl, if_neg (show ¬ fX11_in (Int32.toInt64 1) 0 1 = 0 by decide), show nh_in 1 2 = true by decide, chk_t, show Int32.toNatClampNeg (1 : Int32) = 1 from rfl]
    rcases s1 with ⟨z1, z2⟩ | ⟨z1, z2, h', k', ok', c', e'⟩
    · exact ⟨-3, ac, hd, kn, had, holds, by rw [if_pos z1], by rw [if_pos z2], Or.inl ⟨rfl, rfl, rfl, rfl, rfl⟩⟩
    · obtain ⟨hd', kn', had', holds', g1, g2, g3, g4⟩ := again_one (s := 1) (by omega) ok' c' e' hF hd kn had holds
      refine ⟨Int32.ofNat (smN (holB h') n), 0, hd', kn', had', holds', ?_, ?_, Or.inr ⟨rfl, h', k', ok', g3, g4⟩⟩
      · rw [if_neg (show ¬ f1 = 0 by rw [z1]; decide), if_neg (show ¬ (1 : Int32) = 0 by decide), if_pos rfl]; exact g1
      · rw [if_neg (show ¬ isK 1 = 0 by rw [z2]; decide)]; exact g2
end SLOTS
