/-! who holds, what is dead, what all is worth, who is freed: the two sides alike -/
def lpA (P : Nat → Bool) : Nat → Nat → Bool
  | 0, _ => true
  | j + 1, i => P i && lpA P j (i + 1)
def holB (h : Nat → Nat) (p : Nat) : Nat := bN (decide (h p < 6))
def deadB (n : Nat) (h k : Nat → Nat) (p : Nat) : Bool := decide (h p < 6) && lpA (fun q => (k q).testBit (h p)) n 0
section COUNTS
variable {n : Nat} {h k w : Nat → Nat} {hd kn wo wm had holds wc wn : Nat → Int32}
theorem aC_holders_loop (ok : pOk n h k) (c : pC n h k hd kn) : ∀ (j i N : Nat), i + j = n → j < N → fX1_holders_L4 (Int32.ofNat n) hd (fun x1_3 x2_4 => some x1_3) N (Int32.ofNat (smN (holB h) i)) (Int32.ofNat i) = some (Int32.ofNat (smN (holB h) n)) := by
  have hn := ok.1
  intro j
  induction j with
  | zero =>
    intro i N hi hN
    obtain ⟨N, rfl⟩ : ∃ M, N = M + 1 := ⟨N - 1, by omega⟩
    show fX1_holders_B4 _ _ _ _ _ _ = _
    unfold fX1_holders_B4
    rw [show i = n by omega, if_pos (Int32.le_refl _)]
  | succ j ih =>
    intro i N hi hN
    obtain ⟨N, rfl⟩ : ∃ M, N = M + 1 := ⟨N - 1, by omega⟩
    have I := ih (i + 1) N (by omega) (by omega)
    rw [show smN (holB h) (i + 1) = smN (holB h) i + holB h i from rfl] at I
    show fX1_holders_B4 _ _ _ _ _ _ = _
    unfold fX1_holders_B4
    rw [if_neg (fun q => absurd ((z_le (by omega) (by omega)).mp q) (by omega)), z_chk (show i < 4 by omega) (by omega), z_ix (by omega), (c i (by omega)).1]
    simp only [nh_let, z_succ]
    have v := (ok.2 i (by omega)).1
    by_cases h6 : h i = 6
    · rw [if_pos ((cH_ne v).mpr h6)]
      rw [show holB h i = 0 from by unfold holB; rw [decide_eq_false (by omega)]; rfl] at I
      exact I
    · rw [if_neg (fun z => h6 ((cH_ne v).mp z))]
      rw [show holB h i = 1 from by unfold holB; rw [decide_eq_true (by omega)]; rfl] at I
      exact I
theorem aC_holders (ok : pOk n h k) (c : pC n h k hd kn) {F : Nat} (hF : 6 ≤ F) : fX1_holders F (Int32.ofNat n) hd = some (Int32.ofNat (smN (holB h) n)) := by
  have hn := ok.1
  exact aC_holders_loop ok c n 0 F (by omega) (by omega)
theorem mM_holding_loop (ok : pOk n h k) (cm : pM n h k had holds 0) : ∀ (j i N : Nat), i + j = n → j < N → fX11_holding_L4 (Int32.ofNat n) holds (fun x1_3 x2_4 => some x1_3) N (Int32.ofNat (smN (holB h) i)) (Int32.ofNat i) = some (Int32.ofNat (smN (holB h) n)) := by
  have hn := ok.1
  intro j
  induction j with
  | zero =>
    intro i N hi hN
    obtain ⟨N, rfl⟩ : ∃ M, N = M + 1 := ⟨N - 1, by omega⟩
    show fX11_holding_B4 _ _ _ _ _ _ = _
    unfold fX11_holding_B4
    rw [show i = n by omega, if_pos (Int32.le_refl _)]
  | succ j ih =>
    intro i N hi hN
    obtain ⟨N, rfl⟩ : ∃ M, N = M + 1 := ⟨N - 1, by omega⟩
    have I := ih (i + 1) N (by omega) (by omega)
    rw [show smN (holB h) (i + 1) = smN (holB h) i + holB h i from rfl] at I
    have q := (cm i (by omega)).1
    rw [Nat.mul_zero, Nat.zero_add] at q
    show fX11_holding_B4 _ _ _ _ _ _ = _
    unfold fX11_holding_B4
    rw [if_neg (fun q => absurd ((z_le (by omega) (by omega)).mp q) (by omega)), z_chk (show i < 56 by omega) (by omega), z_ix (by omega), q]
    simp only [nh_let, z_succ]
    have v := (ok.2 i (by omega)).1
    by_cases h6 : h i = 6
    · rw [if_pos ((z_eq6 v).mpr h6), show (0 : Int32) = Int32.ofNat 0 from rfl, z_add]
      rw [show holB h i = 0 from by unfold holB; rw [decide_eq_false (by omega)]; rfl] at I
      exact I
    · rw [if_neg (fun z => h6 ((z_eq6 v).mp z))]
      rw [show holB h i = 1 from by unfold holB; rw [decide_eq_true (by omega)]; rfl] at I
      exact I
theorem mM_holding (ok : pOk n h k) (cm : pM n h k had holds 0) {F : Nat} (hF : 6 ≤ F) : fX11_holding F (Int32.ofNat n) holds = some (Int32.ofNat (smN (holB h) n)) := by
  have hn := ok.1
  exact mM_holding_loop ok cm n 0 F (by omega) (by omega)
theorem aC_wealth_loop (ok : pOk n h k) (c : pC n h k hd kn) (hw : wOk n w wo) : ∀ (j i N : Nat), i + j = n → j < N → fX1_wealth_L4 (Int32.ofNat n) hd wo (fun x1_3 x2_4 => some x1_3) N (Int32.ofNat (smN (fun p => wv w p (h p)) i)) (Int32.ofNat i) = some (Int32.ofNat (smN (fun p => wv w p (h p)) n)) := by
  have hn := ok.1
  intro j
  induction j with
  | zero =>
    intro i N hi hN
    obtain ⟨N, rfl⟩ : ∃ M, N = M + 1 := ⟨N - 1, by omega⟩
    show fX1_wealth_B4 _ _ _ _ _ _ _ = _
    unfold fX1_wealth_B4
    rw [show i = n by omega, if_pos (Int32.le_refl _)]
  | succ j ih =>
    intro i N hi hN
    obtain ⟨N, rfl⟩ : ∃ M, N = M + 1 := ⟨N - 1, by omega⟩
    have I := ih (i + 1) N (by omega) (by omega)
    rw [show smN (fun p => wv w p (h p)) (i + 1) = smN (fun p => wv w p (h p)) i + wv w i (h i) from rfl] at I
    show fX1_wealth_B4 _ _ _ _ _ _ _ = _
    unfold fX1_wealth_B4
    rw [if_neg (fun q => absurd ((z_le (by omega) (by omega)).mp q) (by omega)), z_chk (show i < 4 by omega) (by omega), z_ix (by omega), (c i (by omega)).1, aC_worth hn hw (show i < n by omega) (ok.2 i (by omega)).1]
    simp only [nh_b1, nh_let, z_succ, z_add]
    exact I
theorem aC_wealth (ok : pOk n h k) (c : pC n h k hd kn) (hw : wOk n w wo) {F : Nat} (hF : 6 ≤ F) : fX1_wealth F (Int32.ofNat n) hd wo = some (Int32.ofNat (smN (fun p => wv w p (h p)) n)) := by
  have hn := ok.1
  exact aC_wealth_loop ok c hw n 0 F (by omega) (by omega)
theorem aC_dead_loop (ok : pOk n h k) (c : pC n h k hd kn) {p : Nat} (hp : p < n) (h6 : h p < 6) : ∀ (j i N : Nat), i + j = n → j < N → fX1_isDead_L23 (Int32.ofNat n) hd kn (Int32.ofNat p) (fun x2_5 => some 1) N (Int32.ofNat i) = some (b01 (lpA (fun q => (k q).testBit (h p)) j i)) := by
  have hn := ok.1
  intro j
  induction j with
  | zero =>
    intro i N hi hN
    obtain ⟨N, rfl⟩ : ∃ M, N = M + 1 := ⟨N - 1, by omega⟩
    show fX1_isDead_B23 _ _ _ _ _ _ _ = _
    unfold fX1_isDead_B23
    rw [show i = n by omega, if_pos (Int32.le_refl _)]; rfl
  | succ j ih =>
    intro i N hi hN
    obtain ⟨N, rfl⟩ : ∃ M, N = M + 1 := ⟨N - 1, by omega⟩
    have I := ih (i + 1) N (by omega) (by omega)
    show fX1_isDead_B23 _ _ _ _ _ _ _ = some (b01 ((k i).testBit (h p) && lpA (fun q => (k q).testBit (h p)) j (i + 1)))
    unfold fX1_isDead_B23
    rw [if_neg (fun q => absurd ((z_le (by omega) (by omega)).mp q) (by omega)), z_chk (show p < 4 by omega) (by omega), z_ix (by omega), (c p hp).1, aC_isNew ok c (show i < n by omega) (show h p ≤ 6 by omega), decide_eq_true h6]
    simp only [nh_b1, nh_let, z_succ]
    cases (k i).testBit (h p) with
    | true => rw [if_pos (by decide)]; exact I
    | false => rw [if_neg (by decide)]; rfl
theorem aC_isDead (ok : pOk n h k) (c : pC n h k hd kn) {p F : Nat} (hp : p < n) (hF : 6 ≤ F) : fX1_isDead F (Int32.ofNat n) hd kn (Int32.ofNat p) = some (b01 (deadB n h k p)) := by
  have hn := ok.1
  have v := (ok.2 p hp).1
  unfold fX1_isDead deadB
  rw [aC_has1 hn hp, if_neg (by decide), z_chk (show p < 4 by omega) (by omega), z_ix (by omega), (c p hp).1]
  by_cases h6 : h p = 6
  · rw [if_pos ((cH_ne v).mpr h6), decide_eq_false (by omega)]; rfl
  · rw [if_neg (fun z => h6 ((cH_ne v).mp z)), decide_eq_true (show h p < 6 by omega)]
    exact aC_dead_loop ok c hp (by omega) n 0 F (by omega) (by omega)
theorem mM_dead_loop (ok : pOk n h k) (cm : pM n h k had holds 0) {p : Nat} (hp : p < n) : ∀ (j i N : Nat) (b : Bool), i + j = n → j < N → (b = true → h p < 6) → fX11_isDead_L19 (Int32.ofNat n) had holds (Int32.ofNat p) (fun x2_4 x3_5 => nh_chk (nh_isB x2_4) (some x2_4)) N (b01 b) (Int32.ofNat i) = some (b01 (b && lpA (fun q => (k q).testBit (h p)) j i)) := by
  have hn := ok.1
  intro j
  induction j with
  | zero =>
    intro i N b hi hN hb
    obtain ⟨N, rfl⟩ : ∃ M, N = M + 1 := ⟨N - 1, by omega⟩
    show fX11_isDead_B19 _ _ _ _ _ _ _ _ = _
    unfold fX11_isDead_B19
    rw [show i = n by omega, if_pos (Int32.le_refl _)]
    cases b <;> rfl
  | succ j ih =>
    intro i N b hi hN hb
    obtain ⟨N, rfl⟩ : ∃ M, N = M + 1 := ⟨N - 1, by omega⟩
    have I0 := ih (i + 1) N false (by omega) (by omega) (fun z => by cases z)
    show fX11_isDead_B19 _ _ _ _ _ _ _ _ = some (b01 (b && ((k i).testBit (h p) && lpA (fun q => (k q).testBit (h p)) j (i + 1))))
    unfold fX11_isDead_B19
    rw [if_neg (fun q => absurd ((z_le (by omega) (by omega)).mp q) (by omega))]
    simp only [nh_let, z_succ]
    cases b with
    | false => rw [if_pos (show b01 false = 0 from rfl)]; exact I0
    | true =>
      have h6 := hb rfl
      have I1 := ih (i + 1) N true (by omega) (by omega) (fun _ => h6)
      rw [if_neg (show ¬ b01 true = 0 by decide)]
      by_cases e : i = p
      · subst e
        rw [if_pos rfl, (ok.2 i hp).2.2 h6]
        exact I1
      · have q1 := (cm p hp).1
        have q2 := (cm i (by omega)).2
        rw [Nat.mul_zero, Nat.zero_add] at q1 q2
        rw [if_neg (fun z => e ((z_eq (by omega) (by omega)).mp z)), z_chk (show i < 56 by omega) (by omega), z_chk (show p < 56 by omega) (by omega), z_ix (by omega), z_ix (by omega), q1, q2, mM_has _ (ok.2 i (by omega)).2.1 _ h6]
        cases (k i).testBit (h p) with
        | true => rw [if_neg (by decide)]; exact I1
        | false => rw [if_pos (by decide)]; exact I0
theorem mM_isDead (ok : pOk n h k) (cm : pM n h k had holds 0) {p F : Nat} (hp : p < n) (hF : 6 ≤ F) : fX11_isDead F (Int32.ofNat n) had holds (Int32.ofNat p) = some (b01 (deadB n h k p)) := by
  have hn := ok.1
  have v := (ok.2 p hp).1
  have q := (cm p hp).1
  rw [Nat.mul_zero, Nat.zero_add] at q
  unfold fX11_isDead deadB
  rw [z_chk (show p < 56 by omega) (by omega), z_ix (by omega), q]
  by_cases h6 : h p = 6
  · rw [if_pos ((z_eq6 v).mpr h6), decide_eq_false (by omega)]
    exact mM_dead_loop ok cm hp n 0 F false (by omega) (by omega) (fun z => by cases z)
  · rw [if_neg (fun z => h6 ((z_eq6 v).mp z)), decide_eq_true (show h p < 6 by omega)]
    exact mM_dead_loop ok cm hp n 0 F true (by omega) (by omega) (fun _ => by omega)
theorem aC_deads_loop (ok : pOk n h k) (c : pC n h k hd kn) {F : Nat} (hF : 6 ≤ F) : ∀ (j i N : Nat), i + j = n → j < N → fX1_deadThings_L4 (Int32.ofNat n) hd kn F (fun x1_3 x2_4 => some x1_3) N (Int32.ofNat (smN (fun p => bN (deadB n h k p)) i)) (Int32.ofNat i) = some (Int32.ofNat (smN (fun p => bN (deadB n h k p)) n)) := by
  have hn := ok.1
  intro j
  induction j with
  | zero =>
    intro i N hi hN
    obtain ⟨N, rfl⟩ : ∃ M, N = M + 1 := ⟨N - 1, by omega⟩
    show fX1_deadThings_B4 _ _ _ _ _ _ _ _ = _
    unfold fX1_deadThings_B4
    rw [show i = n by omega, if_pos (Int32.le_refl _)]
  | succ j ih =>
    intro i N hi hN
    obtain ⟨N, rfl⟩ : ∃ M, N = M + 1 := ⟨N - 1, by omega⟩
    have I := ih (i + 1) N (by omega) (by omega)
    rw [show smN (fun p => bN (deadB n h k p)) (i + 1) = smN (fun p => bN (deadB n h k p)) i + bN (deadB n h k i) from rfl] at I
    show fX1_deadThings_B4 _ _ _ _ _ _ _ _ = _
    unfold fX1_deadThings_B4
    rw [if_neg (fun q => absurd ((z_le (by omega) (by omega)).mp q) (by omega)), aC_isDead ok c (show i < n by omega) hF]
    simp only [nh_b1, nh_let, z_succ]
    revert I
    cases deadB n h k i with
    | true => intro I; rw [if_neg (by decide)]; exact I
    | false => intro I; rw [if_pos (by decide)]; exact I
theorem aC_many_loop (hn : n ≤ 4) : ∀ (j i N : Nat), i + j = n → j < N → fX9_howMany_L4 wc (Int32.ofNat n) (fun x2_3 x3_4 => some x2_3) N (Int32.ofNat (smN (fun p => bN (decide (¬ wc p = -9))) i)) (Int32.ofNat i) = some (Int32.ofNat (smN (fun p => bN (decide (¬ wc p = -9))) n)) := by
  intro j
  induction j with
  | zero =>
    intro i N hi hN
    obtain ⟨N, rfl⟩ : ∃ M, N = M + 1 := ⟨N - 1, by omega⟩
    show fX9_howMany_B4 _ _ _ _ _ _ = _
    unfold fX9_howMany_B4
    rw [show i = n by omega, if_pos (Int32.le_refl _)]
  | succ j ih =>
    intro i N hi hN
    obtain ⟨N, rfl⟩ : ∃ M, N = M + 1 := ⟨N - 1, by omega⟩
    have I := ih (i + 1) N (by omega) (by omega)
    rw [show smN (fun p => bN (decide (¬ wc p = -9))) (i + 1) = smN (fun p => bN (decide (¬ wc p = -9))) i + bN (decide (¬ wc i = -9)) from rfl] at I
    show fX9_howMany_B4 _ _ _ _ _ _ = _
    unfold fX9_howMany_B4
    rw [if_neg (fun q => absurd ((z_le (by omega) (by omega)).mp q) (by omega)), z_chk (show i < 4 by omega) (by omega), z_ix (by omega)]
    simp only [nh_let, z_succ]
    by_cases e : wc i = -9
    · rw [decide_eq_false (fun z => z e)] at I
      rw [if_pos e]; exact I
    · rw [decide_eq_true e] at I
      rw [if_neg e]; exact I
theorem mM_about_loop (ok : pOk n h k) (cm : pM n h k had holds 0) (hm : wOk n w wm) (e : wnOk wc wn) {F : Nat} (hF : 6 ≤ F) (kk : Int32 → Int32 → Int32 → Int32 → Option (Int32 × Int32)) : ∀ (j i N : Nat), i + j = n → j < N → fX11_about_L15 (Int32.ofNat n) had holds wn wm F kk N (Int32.ofNat (smN (fun p => bN (deadB n h k p)) i)) (Int32.ofNat (smN (fun p => bN (decide (¬ wc p = -9))) i)) (Int32.ofNat (smN (fun p => wv w p (h p)) i)) (Int32.ofNat i) = kk (Int32.ofNat (smN (fun p => bN (deadB n h k p)) n)) (Int32.ofNat (smN (fun p => bN (decide (¬ wc p = -9))) n)) (Int32.ofNat (smN (fun p => wv w p (h p)) n)) (Int32.ofNat n) := by
  have hn := ok.1
  intro j
  induction j with
  | zero =>
    intro i N hi hN
    obtain ⟨N, rfl⟩ : ∃ M, N = M + 1 := ⟨N - 1, by omega⟩
    show fX11_about_B15 _ _ _ _ _ _ _ _ _ _ _ _ = _
    unfold fX11_about_B15
    rw [show i = n by omega, if_pos (Int32.le_refl _)]
  | succ j ih =>
    intro i N hi hN
    obtain ⟨N, rfl⟩ : ∃ M, N = M + 1 := ⟨N - 1, by omega⟩
    have I := ih (i + 1) N (by omega) (by omega)
    rw [show smN (fun p => bN (deadB n h k p)) (i + 1) = smN (fun p => bN (deadB n h k p)) i + bN (deadB n h k i) from rfl, show smN (fun p => bN (decide (¬ wc p = -9))) (i + 1) = smN (fun p => bN (decide (¬ wc p = -9))) i + bN (decide (¬ wc i = -9)) from rfl, show smN (fun p => wv w p (h p)) (i + 1) = smN (fun p => wv w p (h p)) i + wv w i (h i) from rfl] at I
    have q := (cm i (by omega)).1
    rw [Nat.mul_zero, Nat.zero_add] at q
    have hJ : ∀ d : Bool, fX11_about_J39 holds wn wm (fX11_about_L15 (Int32.ofNat n) had holds wn wm F kk N) (Int32.ofNat (smN (fun p => bN (deadB n h k p)) i)) (Int32.ofNat (smN (fun p => bN (decide (¬ wc p = -9))) i)) (Int32.ofNat (smN (fun p => wv w p (h p)) i)) (Int32.ofNat i) (b01 d) (Int32.ofNat (smN (fun p => bN (deadB n h k p)) i)) = fX11_about_L15 (Int32.ofNat n) had holds wn wm F kk N (Int32.ofNat (smN (fun p => bN (deadB n h k p)) i + bN d)) (Int32.ofNat (smN (fun p => bN (decide (¬ wc p = -9))) i + bN (decide (¬ wc i = -9)))) (Int32.ofNat (smN (fun p => wv w p (h p)) i + wv w i (h i))) (Int32.ofNat (i + 1)) := by
      intro d
      have ed : b01 d = Int32.ofNat (bN d) := by cases d <;> rfl
      have ew := mM_worth hn hm (show i < n by omega) (ok.2 i (by omega)).1
      unfold fX11_about_J39
      simp only [z_chk (show i < 4 by omega) (show 4 < 2147483648 by omega), z_chk (show i < 56 by omega) (show 56 < 2147483648 by omega), z_ix (show i < 2147483648 by omega), ← (e i (by omega)).1, q, ew, ed, nh_b1, nh_let, z_succ, z_add]
      by_cases g : wc i = -9
      · rw [if_pos g, decide_eq_false (fun z => z g), show (0 : Int32) = Int32.ofNat 0 from rfl, z_add]; rfl
      · rw [if_neg g, decide_eq_true g]; rfl
    show fX11_about_B15 _ _ _ _ _ _ _ _ _ _ _ _ = _
    unfold fX11_about_B15
    rw [if_neg (fun q => absurd ((z_le (by omega) (by omega)).mp q) (by omega)), mM_isDead ok cm (show i < n by omega) hF]
    simp only [nh_b1]
    have J := hJ (deadB n h k i)
    rw [I] at J
    revert J
    cases deadB n h k i with
    | true => intro J; rw [if_neg (by decide)]; exact J
    | false => intro J; rw [if_pos (by decide)]; exact J
theorem pair_about (ok : pOk n h k) (c : pC n h k hd kn) (cm : pM n h k had holds 0) (hw : wOk n w wo) (hm : wOk n w wm) (e : wnOk wc wn) {F : Nat} (hF : 10 ≤ F) (ac st tl a th : Int32) : ∃ r, fX10_about F ac (Int32.ofNat n) hd kn wo st tl wc a = some r ∧ fX11_about F th tl (Int32.ofNat n) ac st had holds wn wm a = some (r, 0) := by
  have hn := ok.1
  have L := mM_about_loop ok cm hm e (show 6 ≤ F by omega) (fun x2_5 x3_6 x4_7 x5_8 => (if a = 0 then some (Int32.ofNat n, (0 : Int32))
 else (if a = 1 then nh_b1 (fX11_holding F (Int32.ofNat n) holds) (fun r_36 => some (r_36, 0))
 else (if a = 2 then some (x2_5, 0)
 else (if a = 3 then some (ac, 0)
 else (if a = 4 then some (x3_6, 0)
 else (if a = 5 then some (st, 0)
 else (if a = 6 then some (x4_7, 0)
 else (if a = 7 then some (tl, 0)
 else some ((-2), 0)))))))))) n 0 F (by omega) (by omega)
  have L : fX11_about F th tl (Int32.ofNat n) ac st had holds wn wm a = _ := L
  rw [L]
  have D := aC_deads_loop ok c (show 6 ≤ F by omega) n 0 F (by omega) (by omega)
  have D : fX1_deadThings F (Int32.ofNat n) hd kn = _ := D
  have Q := aC_many_loop (wc := wc) hn n 0 F (by omega) (by omega)
  have Q : fX9_howMany F wc (Int32.ofNat n) = _ := Q
  unfold fX10_about
  rw [D, Q, aC_holders ok c (by omega), mM_holding ok cm (by omega), aC_wealth ok c hw (by omega)]
  simp only [nh_b1]
  by_cases h0 : a = 0
  · exact ⟨_, by rw [if_pos h0], by rw [if_pos h0]⟩
  · rw [if_neg h0, if_neg h0]
    by_cases h1 : a = 1
    · exact ⟨_, by rw [if_pos h1], by rw [if_pos h1]⟩
    · rw [if_neg h1, if_neg h1]
      by_cases h2 : a = 2
      · exact ⟨_, by rw [if_pos h2], by rw [if_pos h2]⟩
      · rw [if_neg h2, if_neg h2]
        by_cases h3 : a = 3
        · exact ⟨_, by rw [if_pos h3], by rw [if_pos h3]⟩
        · rw [if_neg h3, if_neg h3]
          by_cases h4 : a = 4
          · exact ⟨_, by rw [if_pos h4], by rw [if_pos h4]⟩
          · rw [if_neg h4, if_neg h4]
            by_cases h5 : a = 5
            · exact ⟨_, by rw [if_pos h5], by rw [if_pos h5]⟩
            · rw [if_neg h5, if_neg h5]
              by_cases h6 : a = 6
              · exact ⟨_, by rw [if_pos h6], by rw [if_pos h6]⟩
              · rw [if_neg h6, if_neg h6]
                by_cases h7 : a = 7
                · exact ⟨_, by rw [if_pos h7], by rw [if_pos h7]⟩
                · rw [if_neg h7, if_neg h7]
                  exact ⟨_, rfl, rfl⟩
theorem aC_any_loop (ok : pOk n h k) (c : pC n h k hd kn) {p : Nat} (hp : p < n) : ∀ (j i N : Nat), i + j = n → j < N → fX1_canSwapAtAll_L2 (Int32.ofNat n) hd kn (Int32.ofNat p) (fun x2_2 => some 0) N (Int32.ofNat i) = some (b01 (!lpA (fun q => !canB h k p q) j i)) := by
  have hn := ok.1
  intro j
  induction j with
  | zero =>
    intro i N hi hN
    obtain ⟨N, rfl⟩ : ∃ M, N = M + 1 := ⟨N - 1, by omega⟩
    show fX1_canSwapAtAll_B2 _ _ _ _ _ _ _ = _
    unfold fX1_canSwapAtAll_B2
    rw [show i = n by omega, if_pos (Int32.le_refl _)]; rfl
  | succ j ih =>
    intro i N hi hN
    obtain ⟨N, rfl⟩ : ∃ M, N = M + 1 := ⟨N - 1, by omega⟩
    have I := ih (i + 1) N (by omega) (by omega)
    show fX1_canSwapAtAll_B2 _ _ _ _ _ _ _ = some (b01 (!(!canB h k p i && lpA (fun q => !canB h k p q) j (i + 1))))
    unfold fX1_canSwapAtAll_B2
    rw [if_neg (fun q => absurd ((z_le (by omega) (by omega)).mp q) (by omega)), aC_can ok c hp (show i < n by omega)]
    simp only [nh_b1, nh_let, z_succ]
    cases canB h k p i with
    | true => rw [if_neg (by decide)]; rfl
    | false => rw [if_pos (by decide)]; exact I
theorem mM_any_loop (ok : pOk n h k) (cm : pM n h k had holds 0) {p : Nat} (hp : p < n) (kk : Int32 → Int32 → Option (Int32 × Int32)) : ∀ (j i N : Nat) (b : Bool), i + j = n → j < N → fX11_frees_L70 (Int32.ofNat n) had holds (Int32.ofNat p) kk N (b01 b) (Int32.ofNat i) = kk (b01 (b && lpA (fun q => !canB h k p q) j i)) (Int32.ofNat n) := by
  have hn := ok.1
  intro j
  induction j with
  | zero =>
    intro i N b hi hN
    obtain ⟨N, rfl⟩ : ∃ M, N = M + 1 := ⟨N - 1, by omega⟩
    show fX11_frees_B70 _ _ _ _ _ _ _ _ = _
    unfold fX11_frees_B70
    rw [show i = n by omega, if_pos (Int32.le_refl _)]
    cases b <;> rfl
  | succ j ih =>
    intro i N b hi hN
    obtain ⟨N, rfl⟩ : ∃ M, N = M + 1 := ⟨N - 1, by omega⟩
    have I0 := ih (i + 1) N false (by omega) (by omega)
    have I1 := ih (i + 1) N true (by omega) (by omega)
    show fX11_frees_B70 _ _ _ _ _ _ _ _ = kk (b01 (b && (!canB h k p i && lpA (fun q => !canB h k p q) j (i + 1)))) (Int32.ofNat n)
    unfold fX11_frees_B70
    rw [if_neg (fun q => absurd ((z_le (by omega) (by omega)).mp q) (by omega)), show (fX11_mayAt had holds 0 (Int32.ofNat p) (Int32.ofNat i)) = _ from mM_may ok cm (by omega) hp (show i < n by omega)]
    simp only [nh_b1, nh_let, z_succ]
    cases b with
    | false => rw [if_pos (show b01 false = 0 from rfl)]; exact I0
    | true =>
      rw [if_neg (show ¬ b01 true = 0 by decide)]
      cases canB h k p i with
      | true => rw [if_neg (by decide)]; exact I0
      | false => rw [if_pos (by decide)]; exact I1
theorem frees_loop (ok : pOk n h k) (c : pC n h k hd kn) (cm : pM n h k had holds 0) {s F : Nat} (hs : s < 6) (hF : 6 ≤ F) : ∀ (j i N a : Nat), i + j = n → j < N → a < 64 → ∃ r, fX10_frees_L13 (Int32.ofNat n) hd kn (Int32.ofNat s) F (fun x2_4 x3_5 => some x2_4) N (Int32.ofNat a) (Int32.ofNat i) = some r ∧ fX11_frees_L18 (Int32.ofNat n) had holds (Int32.ofNat s) F (fun x2_4 x3_5 => some (x2_4, 0)) N (Int32.ofNat a) (Int32.ofNat i) = some (r, 0) := by
  have hn := ok.1
  intro j
  induction j with
  | zero =>
    intro i N a hi hN ha
    obtain ⟨N, rfl⟩ : ∃ M, N = M + 1 := ⟨N - 1, by omega⟩
    refine ⟨Int32.ofNat a, ?_, ?_⟩
    · show fX10_frees_B13 _ _ _ _ _ _ _ _ _ = _
      unfold fX10_frees_B13
      rw [show i = n by omega, if_pos (Int32.le_refl _)]
    · show fX11_frees_B18 _ _ _ _ _ _ _ _ _ = _
      unfold fX11_frees_B18
      rw [show i = n by omega, if_pos (Int32.le_refl _)]
  | succ j ih =>
    intro i N a hi hN ha
    obtain ⟨N, rfl⟩ : ∃ M, N = M + 1 := ⟨N - 1, by omega⟩
    have v := ok.2 i (by omega)
    obtain ⟨r0, a1, a2⟩ := ih (i + 1) N a (by omega) (by omega) ha
    obtain ⟨r1, b1, b2⟩ := ih (i + 1) N (a ||| 2 ^ i) (by omega) (by omega) (z_or_lt _ ha _ (by omega))
    have q := cm i (by omega)
    rw [Nat.mul_zero, Nat.zero_add] at q
    have hnew := aC_isNew ok c (show i < n by omega) (show s ≤ 6 by omega)
    rw [cH_lt hs, decide_eq_true hs, Bool.true_and] at hnew
    have hany := aC_any_loop ok c (show i < n by omega) n 0 F (by omega) (by omega)
    have hany : fX1_canSwapAtAll F (Int32.ofNat n) hd kn (Int32.ofNat i) = _ := hany
    have hJ : ∀ b : Bool, fX11_frees_J65 (Int32.ofNat n) had holds (fX11_frees_L18 (Int32.ofNat n) had holds (Int32.ofNat s) F (fun x2_4 x3_5 => some (x2_4, 0)) N) F (Int32.ofNat a) (Int32.ofNat i) (b01 b) = some (if (b && lpA (fun q => !canB h k i q) n 0) = true then r1 else r0, 0) := by
      intro b
      unfold fX11_frees_J65
      refine (mM_any_loop ok cm (show i < n by omega) _ n 0 F b (by omega) (by omega)).trans ?_
      simp only [nh_let, z_succ]
      cases b && lpA (fun q => !canB h k i q) n 0 with
      | false => rw [if_pos (show b01 false = 0 from rfl), show (Int32.ofNat a ||| 0) = Int32.ofNat a from Int32.or_zero, a2]; rfl
      | true => rw [if_neg (show ¬ b01 true = 0 by decide), z_or _ ha _ (by omega), b2]; rfl
    have hJ0 := hJ false
    have hJ1 := hJ true
    have hJ0 : fX11_frees_J64 (Int32.ofNat n) had holds (fX11_frees_L18 (Int32.ofNat n) had holds (Int32.ofNat s) F (fun x2_4 x3_5 => some (x2_4, 0)) N) F (Int32.ofNat a) (Int32.ofNat i) = some (r0, 0) := hJ0
    have hL : fX10_frees_L13 (Int32.ofNat n) hd kn (Int32.ofNat s) F (fun x2_4 x3_5 => some x2_4) (N + 1) (Int32.ofNat a) (Int32.ofNat i) = fX10_frees_B13 (Int32.ofNat n) hd kn (Int32.ofNat s) F (fun x2_4 x3_5 => some x2_4) (fX10_frees_L13 (Int32.ofNat n) hd kn (Int32.ofNat s) F (fun x2_4 x3_5 => some x2_4) N) (Int32.ofNat a) (Int32.ofNat i) := rfl
    have hM : fX11_frees_L18 (Int32.ofNat n) had holds (Int32.ofNat s) F (fun x2_4 x3_5 => some (x2_4, 0)) (N + 1) (Int32.ofNat a) (Int32.ofNat i) = fX11_frees_B18 (Int32.ofNat n) had holds (Int32.ofNat s) F (fun x2_4 x3_5 => some (x2_4, 0)) (fX11_frees_L18 (Int32.ofNat n) had holds (Int32.ofNat s) F (fun x2_4 x3_5 => some (x2_4, 0)) N) (Int32.ofNat a) (Int32.ofNat i) := rfl
    rw [hL, hM]
    unfold fX10_frees_B13 fX11_frees_B18
    rw [if_neg (fun q => absurd ((z_le (by omega) (by omega)).mp q) (by omega)), if_neg (fun q => absurd ((z_le (by omega) (by omega)).mp q) (by omega)), z_chk (show i < 4 by omega) (by omega), z_chk (show i < 56 by omega) (by omega), z_chk (show i < 56 by omega) (by omega), z_chk (show i < 56 by omega) (by omega), z_ix (by omega), (c i (by omega)).1, q.1, q.2, hnew, hany, mM_has _ v.2.1 _ hs, hJ0]
    simp only [nh_b1, nh_let, z_succ]
    by_cases h6 : h i = 6
    · rw [if_pos ((cH_ne v.1).mpr h6), if_pos ((z_eq6 v.1).mpr h6)]
      exact ⟨r0, a1, rfl⟩
    · rw [if_neg (fun z => h6 ((cH_ne v.1).mp z)), if_neg (fun z => h6 ((z_eq6 v.1).mp z))]
      by_cases hsi : h i = s
      · have : (k i).testBit s = true := by rw [← hsi]; exact v.2.2 (by omega)
        rw [if_pos (show Int32.ofNat (h i) = Int32.ofNat s by rw [hsi]), this, if_pos (by decide)]
        exact ⟨r0, a1, rfl⟩
      · rw [if_neg (fun z => hsi ((z_eq (by omega) (by omega)).mp z))]
        cases hb : (k i).testBit s with
        | true =>
          rw [if_pos (by decide), if_neg (by decide)]
          exact ⟨r0, a1, rfl⟩
        | false =>
          rw [if_neg (by decide), if_pos (show b01 false = 0 from rfl), show (fX11_frees_J65 (Int32.ofNat n) had holds (fX11_frees_L18 (Int32.ofNat n) had holds (Int32.ofNat s) F (fun x2_4 x3_5 => some (x2_4, 0)) N) F (Int32.ofNat a) (Int32.ofNat i) 1) = _ from hJ1, Bool.true_and]
          cases lpA (fun q => !canB h k i q) n 0 with
          | true =>
            rw [if_pos (by decide), if_pos rfl, z_or _ ha _ (by omega)]
            exact ⟨r1, b1, rfl⟩
          | false =>
            rw [if_neg (by decide), if_neg (by decide)]
            exact ⟨r0, a1, rfl⟩
theorem pair_frees (ok : pOk n h k) (c : pC n h k hd kn) (cm : pM n h k had holds 0) {F : Nat} (hF : 10 ≤ F) (a th : Int32) : ∃ r, fX10_frees F (Int32.ofNat n) hd kn a = some r ∧ fX11_frees F th (Int32.ofNat n) had holds a = some (r, 0) := by
  have hn := ok.1
  unfold fX10_frees fX11_frees
  rcases mM_noSort_or a with ⟨f1, f2⟩ | ⟨s, hs, rfl, f1, f2⟩
  · exact ⟨-1, by rw [f2, if_pos rfl], by rw [f1, if_neg (by decide)]⟩
  · rw [f2, if_neg (by decide), f1, if_pos rfl]
    exact frees_loop ok c cm hs (by omega) n 0 F 0 (by omega) (by omega) (by omega)
end COUNTS
