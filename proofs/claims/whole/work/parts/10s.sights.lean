/-! sights: kept alike on both sides; lists, listed: the two sides answer alike -/
def sOk (m : Nat) (sg : Nat → Nat) (tk : Nat → Bool) (sc tc sm tm : Nat → Int32) : Prop := m ≤ 8 ∧ ∀ i, i < m → sg i < 6 ∧ sc i = Int32.ofNat (sg i) ∧ sm i = Int32.ofNat (sg i) ∧ tc i = b01 (tk i) ∧ tm i = b01 (tk i)
theorem vp_narB (b : Bool) : vp_nar .boolean (b01 b) = b01 b := by cases b <;> rfl
theorem b01_inj (a b : Bool) : (b01 a = b01 b) ↔ a = b := by cases a <;> cases b <;> decide
theorem pair_sight {m : Nat} {sg : Nat → Nat} {tk : Nat → Bool} {sc tc sm tm : Nat → Int32} (o : sOk m sg tk sc tc sm tm) (a : Int32) (b : Bool) (th : Int32) : ∃ (r : Int32) (m' : Nat) (sg' : Nat → Nat) (tk' : Nat → Bool) (sc' tc' sm' tm' : Nat → Int32), fX10_sight (Int32.ofNat m) sc tc a (b01 b) = some (r, Int32.ofNat m', sc', tc') ∧ fX11_sight th (Int32.ofNat m) sm tm a (b01 b) = some (r, 0, Int32.ofNat m', sm', tm') ∧ sOk m' sg' tk' sc' tc' sm' tm' := by
  have h8 := o.1
  unfold fX10_sight fX11_sight
  rcases mM_noSort_or a with ⟨f1, f2⟩ | ⟨s, hs, rfl, f1, f2⟩
  · exact ⟨-1, m, sg, tk, sc, tc, sm, tm, by rw [f2, if_pos rfl], by rw [f1, if_neg (by decide)], o⟩
  · by_cases e : m = 8
    · refine ⟨-4, m, sg, tk, sc, tc, sm, tm, ?_, ?_, o⟩
      · rw [f2, if_neg (by decide), if_neg (show ¬ Int32.ofNat m < 8 from fun z => absurd ((z_lt (a := m) (b := 8) (by omega) (by omega)).mp z) (by omega))]
      · rw [f1, if_pos rfl, if_pos (show Int32.ofNat m = 8 by rw [e]; rfl)]
    · refine ⟨Int32.ofNat (m + 1), m + 1, fun i => if i = m then s else sg i, fun i => if i = m then b else tk i, upd sc m (Int32.ofNat s), upd tc m (b01 b), upd sm m (Int32.ofNat s), upd tm m (b01 b), ?_, ?_, by omega, fun i hi => ?_⟩
      · rw [f2, if_neg (by decide), if_pos (show Int32.ofNat m < 8 from (z_lt (a := m) (b := 8) (by omega) (by omega)).mpr (by omega))]
        unfold fX5_add
        rw [if_neg (show ¬ (8 : Int32) ≤ Int32.ofNat m from fun z => absurd ((z_le (a := 8) (b := m) (by omega) (by omega)).mp z) (by omega))]
        simp only [z_chk (show m < 8 by omega) (show 8 < 2147483648 by omega), z_ix (show m < 2147483648 by omega), nh_let, z_succ, nh_b3, vp_narB]
      · rw [f1, if_pos rfl, if_neg (show ¬ Int32.ofNat m = 8 from fun z => e ((z_eq (a := m) (b := 8) (by omega) (by omega)).mp z))]
        simp only [z_chk (show m < 8 by omega) (show 8 < 2147483648 by omega), z_ix (show m < 2147483648 by omega), nh_let, z_succ, vp_narB]
      · by_cases g : i = m
        · subst g; simp only [upd_same, if_true]; exact ⟨hs, trivial, trivial, trivial, trivial⟩
        · dsimp only; rw [upd_ne g, upd_ne g, upd_ne g, upd_ne g, if_neg g, if_neg g]; exact o.2 i (by omega)
def fitC (sg : Nat → Nat) (tk : Nat → Bool) (s : Nat) : Nat → Nat → Bool → Bool
  | 0, _, _ => true
  | j + 1, i, on => if sg i = s then (if tk i = on then false else fitC sg tk s j (i + 1) true) else fitC sg tk s j (i + 1) on
def fitR (sg : Nat → Nat) (tk : Nat → Bool) : Nat → Nat → Nat → Bool
  | 0, _, _ => true
  | j + 1, i, l => (l.testBit (sg i) != tk i) && fitR sg tk j (i + 1) (l ||| 2 ^ sg i)
section SIGHTS
variable {m : Nat} {sg : Nat → Nat} {tk : Nat → Bool} {sc tc sm tm : Nat → Int32}
theorem aC_fits_loop (o : sOk m sg tk sc tc sm tm) {s : Nat} (hs : s < 6) : ∀ (j i N : Nat) (on : Bool), i + j = m → j < N → fX5_fits_L5 (Int32.ofNat m) sc tc (Int32.ofNat s) (fun x3_3 x4_4 => some 1) N (b01 on) (Int32.ofNat i) = some (b01 (fitC sg tk s j i on)) := by
  have h8 := o.1
  intro j
  induction j with
  | zero =>
    intro i N on hi hN
    obtain ⟨N, rfl⟩ : ∃ M, N = M + 1 := ⟨N - 1, by omega⟩
    show fX5_fits_B5 _ _ _ _ _ _ _ _ = _
    unfold fX5_fits_B5
    rw [show i = m by omega, if_pos (Int32.le_refl _)]; rfl
  | succ j ih =>
    intro i N on hi hN
    obtain ⟨N, rfl⟩ : ∃ M, N = M + 1 := ⟨N - 1, by omega⟩
    obtain ⟨q1, q2, -, q4, -⟩ := o.2 i (by omega)
    show fX5_fits_B5 _ _ _ _ _ _ _ _ = some (b01 (if sg i = s then (if tk i = on then false else fitC sg tk s j (i + 1) true) else fitC sg tk s j (i + 1) on))
    unfold fX5_fits_B5
    rw [if_neg (fun q => absurd ((z_le (by omega) (by omega)).mp q) (by omega))]
    simp only [nh_let, z_succ, z_chk (show i < 8 by omega) (show 8 < 2147483648 by omega), z_ix (show i < 2147483648 by omega), q2, q4]
    by_cases e : sg i = s
    · rw [if_pos (by rw [e]), if_pos e]
      by_cases g : tk i = on
      · rw [if_pos (by rw [g]), if_pos g]; rfl
      · rw [if_neg (fun z => g ((b01_inj _ _).mp z)), if_neg g]
        exact ih (i + 1) N true (by omega) (by omega)
    · rw [if_neg (fun z => e ((z_eq (by omega) (by omega)).mp z)), if_neg e]
      exact ih (i + 1) N on (by omega) (by omega)
theorem aC_fits (o : sOk m sg tk sc tc sm tm) {s : Nat} (hs : s < 6) {F : Nat} (hF : 10 ≤ F) (on : Bool) : fX5_fits F (Int32.ofNat m) sc tc (Int32.ofNat s) (b01 on) = some (b01 (fitC sg tk s m 0 on)) := by
  have h8 := o.1
  unfold fX5_fits
  exact aC_fits_loop o hs m 0 F on (by omega) (by omega)
theorem mM_fits_loop (o : sOk m sg tk sc tc sm tm) : ∀ (j i N l : Nat) (b : Bool), i + j = m → j < N → l < 64 → fX11_fits_L7 (Int32.ofNat m) sm tm (fun x2_4 x3_5 x4_6 => nh_chk (nh_isB x3_5) (some x3_5)) N (Int32.ofNat l) (b01 b) (Int32.ofNat i) = some (b01 (b && fitR sg tk j i l)) := by
  have h8 := o.1
  intro j
  induction j with
  | zero =>
    intro i N l b hi hN hl
    obtain ⟨N, rfl⟩ : ∃ M, N = M + 1 := ⟨N - 1, by omega⟩
    show fX11_fits_B7 _ _ _ _ _ _ _ _ = _
    unfold fX11_fits_B7
    rw [show i = m by omega, if_pos (Int32.le_refl _)]
    cases b <;> rfl
  | succ j ih =>
    intro i N l b hi hN hl
    obtain ⟨N, rfl⟩ : ∃ M, N = M + 1 := ⟨N - 1, by omega⟩
    obtain ⟨q1, -, q3, -, q5⟩ := o.2 i (by omega)
    have hl2 := z_or_lt l hl _ q1
    have i0 := ih (i + 1) N (l ||| 2 ^ sg i) false (by omega) (by omega) hl2
    have i1 := ih (i + 1) N (l ||| 2 ^ sg i) true (by omega) (by omega) hl2
    show fX11_fits_B7 _ _ _ _ _ _ _ _ = some (b01 (b && ((l.testBit (sg i) != tk i) && fitR sg tk j (i + 1) (l ||| 2 ^ sg i))))
    unfold fX11_fits_B7
    rw [if_neg (fun q => absurd ((z_le (by omega) (by omega)).mp q) (by omega))]
    simp only [nh_let, z_succ, z_chk (show i < 8 by omega) (show 8 < 2147483648 by omega), z_ix (show i < 2147483648 by omega), q3, q5, z_or l hl _ q1, mM_has l hl _ q1]
    cases b with
    | false => rw [if_pos (show b01 false = 0 from rfl)]; exact i0
    | true =>
      rw [if_neg (show ¬ b01 true = 0 by decide)]
      by_cases g : l.testBit (sg i) = tk i
      · rw [if_pos (by rw [g]), show (l.testBit (sg i) != tk i) = false by rw [g]; simp]; exact i0
      · rw [if_neg (fun z => g ((b01_inj _ _).mp z)), show (l.testBit (sg i) != tk i) = true by simpa using g]; exact i1
theorem mM_fits (o : sOk m sg tk sc tc sm tm) {l : Nat} (hl : l < 64) {F : Nat} (hF : 10 ≤ F) : fX11_fits F (Int32.ofNat m) sm tm (Int32.ofNat l) = some (b01 (fitR sg tk m 0 l)) := by
  have h8 := o.1
  unfold fX11_fits
  exact mM_fits_loop o m 0 F l true (by omega) (by omega) hl
theorem fit_iff : ∀ (j i l : Nat), (∀ q, i ≤ q → q < i + j → sg q < 6) → (fitR sg tk j i l = true ↔ ∀ s, s < 6 → fitC sg tk s j i (l.testBit s) = true)
  | 0, i, l, _ => ⟨fun _ _ _ => rfl, fun _ => rfl⟩
  | j + 1, i, l, h => by
    have ih := fit_iff j (i + 1) (l ||| 2 ^ sg i) (fun q h1 h2 => h q (by omega) (by omega))
    have hb : ∀ s, (l ||| 2 ^ sg i).testBit s = (l.testBit s || decide (sg i = s)) := fun s => by rw [Nat.testBit_or, Nat.testBit_two_pow]
    show ((l.testBit (sg i) != tk i) && fitR sg tk j (i + 1) (l ||| 2 ^ sg i)) = true ↔ ∀ s, s < 6 → (if sg i = s then (if tk i = l.testBit s then false else fitC sg tk s j (i + 1) true) else fitC sg tk s j (i + 1) (l.testBit s)) = true
    rw [Bool.and_eq_true, ih]
    constructor
    · rintro ⟨h1, h2⟩ s hs
      have g := h2 s hs
      rw [hb] at g
      by_cases e : sg i = s
      · subst e
        rw [if_pos rfl, if_neg (fun z => by rw [z] at h1; simp at h1)]
        rw [decide_eq_true rfl, Bool.or_true] at g
        exact g
      · rw [if_neg e]
        rw [decide_eq_false e, Bool.or_false] at g
        exact g
    · intro h3
      refine ⟨?_, fun s hs => ?_⟩
      · have g := h3 (sg i) (h i (Nat.le_refl _) (by omega))
        rw [if_pos rfl] at g
        by_cases z : tk i = l.testBit (sg i)
        · rw [if_pos z] at g; cases g
        · rw [bne_iff_ne]; exact fun w => z w.symm
      · rw [hb]
        have g := h3 s hs
        by_cases e : sg i = s
        · rw [if_pos e] at g
          rw [decide_eq_true e, Bool.or_true]
          by_cases z : tk i = l.testBit s
          · rw [if_pos z] at g; cases g
          · rw [if_neg z] at g; exact g
        · rw [if_neg e] at g
          rw [decide_eq_false e, Bool.or_false]
          exact g
end SIGHTS
def smN (g : Nat → Nat) : Nat → Nat
  | 0 => 0
  | n + 1 => smN g n + g n
theorem smN_add (g : Nat → Nat) (x : Nat) : ∀ y, smN g (x + y) = smN g x + smN (fun t => g (x + t)) y
  | 0 => rfl
  | y + 1 => by
    show smN g (x + y) + g (x + y) = smN g x + (smN (fun t => g (x + t)) y + g (x + y))
    rw [smN_add g x y]; omega
theorem smN_congr {g g' : Nat → Nat} : ∀ n, (∀ i, i < n → g i = g' i) → smN g n = smN g' n
  | 0, _ => rfl
  | n + 1, h => by
    show smN g n + g n = smN g' n + g' n
    rw [smN_congr n (fun i hi => h i (by omega)), h n (by omega)]
def bN (b : Bool) : Nat := if b = true then 1 else 0
theorem smN_and {P : Nat → Bool} {c : Bool} : ∀ n, smN (fun t => bN (P t && c)) n = smN (fun t => bN (P t)) n * bN c
  | 0 => by show 0 = 0 * _; omega
  | n + 1 => by
    show smN (fun t => bN (P t && c)) n + bN (P n && c) = (smN (fun t => bN (P t)) n + bN (P n)) * bN c
    rw [smN_and n, Nat.add_mul]
    congr 1
    cases P n <;> cases c <;> rfl
def fitX (a b : Nat → Bool) : Nat → Nat → Bool
  | 0, _ => true
  | j + 1, l => fitX a b j l && (if l.testBit j = true then a j else b j)
theorem fitX_iff {a b : Nat → Bool} : ∀ j l, fitX a b j l = true ↔ ∀ s, s < j → (if l.testBit s = true then a s else b s) = true
  | 0, l => ⟨fun _ s hs => absurd hs (by omega), fun _ => rfl⟩
  | j + 1, l => by
    show (fitX a b j l && (if l.testBit j = true then a j else b j)) = true ↔ _
    rw [Bool.and_eq_true, fitX_iff j l]
    refine ⟨fun ⟨h1, h2⟩ s hs => ?_, fun h => ⟨fun s hs => h s (by omega), h j (by omega)⟩⟩
    by_cases e : s = j
    · subst e; exact h2
    · exact h1 s (by omega)
theorem fitX_hi {a b : Nat → Bool} {j t : Nat} : ∀ i, i ≤ j → fitX a b i (2 ^ j + t) = fitX a b i t
  | 0, _ => rfl
  | i + 1, h => by
    show (fitX a b i (2 ^ j + t) && (if (2 ^ j + t).testBit i = true then a i else b i)) = (fitX a b i t && (if t.testBit i = true then a i else b i))
    rw [fitX_hi i (by omega), Nat.testBit_two_pow_add_gt (by omega) t]
def prN (a b : Nat → Bool) : Nat → Nat
  | 0 => 1
  | j + 1 => prN a b j * (bN (a j) + bN (b j))
theorem sm_pr {a b : Nat → Bool} : ∀ j, smN (fun l => bN (fitX a b j l)) (2 ^ j) = prN a b j
  | 0 => rfl
  | j + 1 => by
    show _ = prN a b j * (bN (a j) + bN (b j))
    rw [show 2 ^ (j + 1) = 2 ^ j + 2 ^ j by rw [Nat.pow_succ]; omega, smN_add, ← sm_pr j]
    have e1 : smN (fun l => bN (fitX a b (j + 1) l)) (2 ^ j) = smN (fun l => bN (fitX a b j l)) (2 ^ j) * bN (b j) := by
      rw [← smN_and]
      refine smN_congr _ (fun l hl => ?_)
      show bN (fitX a b j l && (if l.testBit j = true then a j else b j)) = _
      rw [Nat.testBit_lt_two_pow hl, if_neg (by decide)]
    have e2 : smN (fun t => bN (fitX a b (j + 1) (2 ^ j + t))) (2 ^ j) = smN (fun l => bN (fitX a b j l)) (2 ^ j) * bN (a j) := by
      rw [← smN_and]
      refine smN_congr _ (fun l hl => ?_)
      show bN (fitX a b j (2 ^ j + l) && (if (2 ^ j + l).testBit j = true then a j else b j)) = _
      rw [fitX_hi j (Nat.le_refl _), Nat.testBit_two_pow_add_eq, Nat.testBit_lt_two_pow hl, if_pos (by decide)]
    rw [e1, e2, Nat.mul_add]
    omega
def offB (b : Nat → Bool) (s : Nat) : Nat → Bool := fun t => if t = s then false else b t
theorem fitX_off {a b : Nat → Bool} {s l : Nat} : ∀ j, fitX a (offB b s) j l = (fitX a b j l && (decide (j ≤ s) || l.testBit s))
  | 0 => by simp [fitX]
  | j + 1 => by
    show (fitX a (offB b s) j l && (if l.testBit j = true then a j else offB b s j)) = (fitX a b j l && (if l.testBit j = true then a j else b j) && (decide (j + 1 ≤ s) || l.testBit s))
    rw [fitX_off j]
    unfold offB
    by_cases e : j = s
    · subst e
      rw [if_pos rfl, decide_eq_true (Nat.le_refl _), decide_eq_false (by omega)]
      cases fitX a b j l <;> cases l.testBit j <;> cases a j <;> cases b j <;> rfl
    · rw [if_neg e]
      have : decide (j + 1 ≤ s) = decide (j ≤ s) := by
        by_cases g : j ≤ s
        · rw [decide_eq_true g, decide_eq_true (by omega)]
        · rw [decide_eq_false g, decide_eq_false (by omega)]
      rw [this]
      cases fitX a b j l <;> cases (if l.testBit j = true then a j else b j) <;> simp
theorem pr_off_le {a b : Nat → Bool} {s : Nat} : ∀ j, j ≤ s → prN a (offB b s) j = prN a b j
  | 0, _ => rfl
  | j + 1, h => by
    show prN a (offB b s) j * (bN (a j) + bN (offB b s j)) = prN a b j * (bN (a j) + bN (b j))
    rw [pr_off_le j (by omega), show offB b s j = b j from if_neg (by omega)]
theorem pr_off {a b : Nat → Bool} {s : Nat} : ∀ j, s < j → ∃ R, prN a b j = (bN (a s) + bN (b s)) * R ∧ prN a (offB b s) j = bN (a s) * R
  | 0, h => absurd h (by omega)
  | j + 1, h => by
    by_cases e : s = j
    · subst e
      refine ⟨prN a b s, ?_, ?_⟩
      · show prN a b s * (bN (a s) + bN (b s)) = _
        rw [Nat.mul_comm]
      · show prN a (offB b s) s * (bN (a s) + bN (offB b s s)) = _
        rw [pr_off_le s (Nat.le_refl _), show offB b s s = false from if_pos rfl, Nat.mul_comm]
        rfl
    · obtain ⟨R, h1, h2⟩ := pr_off (a := a) (b := b) j (show s < j by omega)
      refine ⟨R * (bN (a j) + bN (b j)), ?_, ?_⟩
      · show prN a b j * (bN (a j) + bN (b j)) = _
        rw [h1, Nat.mul_assoc]
      · show prN a (offB b s) j * (bN (a j) + bN (offB b s j)) = _
        rw [h2, Nat.mul_assoc, show offB b s j = b j from if_neg (fun z => e z.symm)]
theorem bN_le (b : Bool) : bN b ≤ 1 := by cases b <;> decide
theorem pr_le {a b : Nat → Bool} : ∀ j, prN a b j ≤ 2 ^ j
  | 0 => Nat.le_refl _
  | j + 1 => by
    show prN a b j * (bN (a j) + bN (b j)) ≤ _
    rw [Nat.pow_succ]
    exact Nat.mul_le_mul (pr_le j) (by have := bN_le (a j); have := bN_le (b j); omega)
section LISTS
variable {m : Nat} {sg : Nat → Nat} {tk : Nat → Bool} {sc tc sm tm : Nat → Int32}
theorem fitRX (o : sOk m sg tk sc tc sm tm) (l : Nat) : fitR sg tk m 0 l = fitX (fun s => fitC sg tk s m 0 true) (fun s => fitC sg tk s m 0 false) 6 l := by
  rw [Bool.eq_iff_iff, fit_iff m 0 l (fun q _ h => (o.2 q (by omega)).1), fitX_iff]
  refine ⟨fun h s hs => ?_, fun h s hs => ?_⟩
  · have := h s hs
    cases g : l.testBit s with
    | true => rw [g] at this; exact this
    | false => rw [g] at this; exact this
  · have := h s hs
    cases g : l.testBit s with
    | true => rw [g] at this; exact this
    | false => rw [g] at this; exact this
theorem aC_fitting (o : sOk m sg tk sc tc sm tm) {F : Nat} (hF : 10 ≤ F) : ∀ (j s N : Nat), s + j = 6 → j < N → fX5_fittingLists_L4 (Int32.ofNat m) sc tc F (fun x1_3 x2_4 => some x1_3) N (Int32.ofNat (prN (fun s => fitC sg tk s m 0 true) (fun s => fitC sg tk s m 0 false) s)) (Int32.ofNat s) = some (Int32.ofNat (prN (fun s => fitC sg tk s m 0 true) (fun s => fitC sg tk s m 0 false) 6)) := by
  intro j
  induction j with
  | zero =>
    intro s N hs hN
    obtain ⟨N, rfl⟩ : ∃ M, N = M + 1 := ⟨N - 1, by omega⟩
    show fX5_fittingLists_B4 _ _ _ _ _ _ _ _ = _
    unfold fX5_fittingLists_B4
    rw [show s = 6 by omega, if_pos (by decide)]
  | succ j ih =>
    intro s N hs hN
    obtain ⟨N, rfl⟩ : ∃ M, N = M + 1 := ⟨N - 1, by omega⟩
    show fX5_fittingLists_B4 _ _ _ _ _ _ _ _ = _
    unfold fX5_fittingLists_B4
    rw [if_neg (show ¬ (6 : Int32) ≤ Int32.ofNat s from fun q => absurd ((z_le (a := 6) (b := s) (by omega) (by omega)).mp q) (by omega))]
    have e1 := aC_fits o (show s < 6 by omega) hF true
    have e0 := aC_fits o (show s < 6 by omega) hF false
    rw [show b01 true = (1 : Int32) from rfl] at e1
    rw [show b01 false = (0 : Int32) from rfl] at e0
    simp only [e1, e0, nh_b1, nh_let, z_succ]
    have I := ih (s + 1) N (by omega) (by omega)
    rw [show prN (fun s => fitC sg tk s m 0 true) (fun s => fitC sg tk s m 0 false) (s + 1) = prN (fun s => fitC sg tk s m 0 true) (fun s => fitC sg tk s m 0 false) s * (bN (fitC sg tk s m 0 true) + bN (fitC sg tk s m 0 false)) from rfl] at I
    revert I
    cases fitC sg tk s m 0 true <;> cases fitC sg tk s m 0 false <;> intro I
    · rw [if_pos (by decide), if_pos (by decide), show (0 + 0 : Int32) = Int32.ofNat 0 from rfl, z_mul]; exact I
    · rw [if_pos (by decide), if_neg (by decide), show (0 + 1 : Int32) = Int32.ofNat 1 from rfl, z_mul]; exact I
    · rw [if_neg (by decide), if_pos (by decide), show (1 + 0 : Int32) = Int32.ofNat 1 from rfl, z_mul]; exact I
    · rw [if_neg (by decide), if_neg (by decide), show (1 + 1 : Int32) = Int32.ofNat 2 from rfl, z_mul]; exact I
theorem aC_fittingLists (o : sOk m sg tk sc tc sm tm) {F : Nat} (hF : 10 ≤ F) : fX5_fittingLists F (Int32.ofNat m) sc tc = some (Int32.ofNat (prN (fun s => fitC sg tk s m 0 true) (fun s => fitC sg tk s m 0 false) 6)) := by
  unfold fX5_fittingLists
  exact aC_fitting o hF 6 0 F (by omega) (by omega)
theorem mM_lists_loop (o : sOk m sg tk sc tc sm tm) {F : Nat} (hF : 10 ≤ F) : ∀ (j i N : Nat), i + j = 64 → j < N → fX11_lists_L9 (Int32.ofNat m) sm tm F (fun x1_3 x2_4 => some (x1_3, 0)) N (Int32.ofNat (smN (fun l => bN (fitR sg tk m 0 l)) i)) (Int32.ofNat i) = some (Int32.ofNat (smN (fun l => bN (fitR sg tk m 0 l)) 64), 0) := by
  intro j
  induction j with
  | zero =>
    intro i N hi hN
    obtain ⟨N, rfl⟩ : ∃ M, N = M + 1 := ⟨N - 1, by omega⟩
    show fX11_lists_B9 _ _ _ _ _ _ _ _ = _
    unfold fX11_lists_B9
    rw [show i = 64 by omega, if_pos (by decide)]
  | succ j ih =>
    intro i N hi hN
    obtain ⟨N, rfl⟩ : ∃ M, N = M + 1 := ⟨N - 1, by omega⟩
    show fX11_lists_B9 _ _ _ _ _ _ _ _ = _
    unfold fX11_lists_B9
    rw [if_neg (show ¬ (64 : Int32) ≤ Int32.ofNat i from fun q => absurd ((z_le (a := 64) (b := i) (by omega) (by omega)).mp q) (by omega)), mM_fits o (show i < 64 by omega) hF]
    simp only [nh_b1, nh_let, z_succ]
    have I := ih (i + 1) N (by omega) (by omega)
    rw [show smN (fun l => bN (fitR sg tk m 0 l)) (i + 1) = smN (fun l => bN (fitR sg tk m 0 l)) i + bN (fitR sg tk m 0 i) from rfl] at I
    revert I
    cases fitR sg tk m 0 i <;> intro I
    · rw [if_pos (by decide), show (0 : Int32) = Int32.ofNat 0 from rfl, z_add]; exact I
    · rw [if_neg (by decide)]; exact I
theorem sm_lists (o : sOk m sg tk sc tc sm tm) : smN (fun l => bN (fitR sg tk m 0 l)) 64 = prN (fun s => fitC sg tk s m 0 true) (fun s => fitC sg tk s m 0 false) 6 := by
  rw [← sm_pr 6]
  exact smN_congr _ (fun l _ => by rw [fitRX o l])
theorem pair_lists (o : sOk m sg tk sc tc sm tm) {F : Nat} (hF : 100 ≤ F) (th : Int32) : ∃ r, fX10_lists F (Int32.ofNat m) sc tc = some r ∧ fX11_lists F th (Int32.ofNat m) sm tm = some (r, 0) := by
  refine ⟨Int32.ofNat (prN (fun s => fitC sg tk s m 0 true) (fun s => fitC sg tk s m 0 false) 6), ?_, ?_⟩
  · unfold fX10_lists; rw [aC_fittingLists o (by omega)]; rfl
  · unfold fX11_lists
    rw [← sm_lists o]
    exact mM_lists_loop o (by omega) 64 0 F (by omega) (by omega)
theorem mM_listed_loop (o : sOk m sg tk sc tc sm tm) {s : Nat} (hs : s < 6) {F : Nat} (hF : 10 ≤ F) (kk : Int32 → Int32 → Int32 → Option (Int32 × Int32)) : ∀ (j i N : Nat), i + j = 64 → j < N → fX11_listed_L21 (Int32.ofNat m) sm tm (Int32.ofNat s) F kk N (Int32.ofNat (smN (fun l => bN (fitR sg tk m 0 l)) i)) (Int32.ofNat (smN (fun l => bN (fitR sg tk m 0 l && l.testBit s)) i)) (Int32.ofNat i) = kk (Int32.ofNat (smN (fun l => bN (fitR sg tk m 0 l)) 64)) (Int32.ofNat (smN (fun l => bN (fitR sg tk m 0 l && l.testBit s)) 64)) 64 := by
  intro j
  induction j with
  | zero =>
    intro i N hi hN
    obtain ⟨N, rfl⟩ : ∃ M, N = M + 1 := ⟨N - 1, by omega⟩
    show fX11_listed_B21 _ _ _ _ _ _ _ _ _ _ = _
    unfold fX11_listed_B21
    rw [show i = 64 by omega, if_pos (by decide)]; rfl
  | succ j ih =>
    intro i N hi hN
    obtain ⟨N, rfl⟩ : ∃ M, N = M + 1 := ⟨N - 1, by omega⟩
    show fX11_listed_B21 _ _ _ _ _ _ _ _ _ _ = _
    unfold fX11_listed_B21
    rw [if_neg (show ¬ (64 : Int32) ≤ Int32.ofNat i from fun q => absurd ((z_le (a := 64) (b := i) (by omega) (by omega)).mp q) (by omega)), mM_fits o (show i < 64 by omega) hF]
    simp only [nh_b1, nh_let, z_succ, z_set i (show i < 64 by omega) s hs]
    have I := ih (i + 1) N (by omega) (by omega)
    rw [show smN (fun l => bN (fitR sg tk m 0 l)) (i + 1) = smN (fun l => bN (fitR sg tk m 0 l)) i + bN (fitR sg tk m 0 i) from rfl, show smN (fun l => bN (fitR sg tk m 0 l && l.testBit s)) (i + 1) = smN (fun l => bN (fitR sg tk m 0 l && l.testBit s)) i + bN (fitR sg tk m 0 i && i.testBit s) from rfl] at I
    revert I
    cases fitR sg tk m 0 i
    · intro I
      rw [if_pos (by decide)]
      exact I
    · rw [if_neg (by decide)]
      cases i.testBit s
      · intro I
        rw [if_neg (by decide), show (0 : Int32) = Int32.ofNat 0 from rfl, z_add]
        exact I
      · intro I
        rw [if_pos rfl, show (1 : Int32) = Int32.ofNat 1 from rfl, z_add]
        exact I
theorem pair_listed (o : sOk m sg tk sc tc sm tm) {F : Nat} (hF : 100 ≤ F) (a th : Int32) : ∃ r, fX10_listed F (Int32.ofNat m) sc tc a = some r ∧ fX11_listed F th (Int32.ofNat m) sm tm a = some (r, 0) := by
  unfold fX10_listed fX11_listed
  rcases mM_noSort_or a with ⟨f1, f2⟩ | ⟨s, hs, rfl, f1, f2⟩
  · exact ⟨-1, by rw [f2, if_pos rfl], by rw [f1, if_neg (by decide)]⟩
  · rw [f2, if_neg (by decide), f1, if_pos rfl]
    unfold fX5_hadAtFirst
    rw [aC_fittingLists o (by omega)]
    have e1 := aC_fits o hs (show 10 ≤ F by omega) true
    have e0 := aC_fits o hs (show 10 ≤ F by omega) false
    rw [show b01 true = (1 : Int32) from rfl] at e1
    rw [show b01 false = (0 : Int32) from rfl] at e0
    have L := mM_listed_loop o hs (show 10 ≤ F by omega) (fun x2_5 x3_6 x4_7 => (if x2_5 = 0 then some ((-9), (0 : Int32))
 else (if x3_6 = x2_5 then some (1, 0)
 else (if x3_6 = 0 then some (0, 0)
 else some (2, 0))))) 64 0 F (by omega) (by omega)
    have L : fX11_listed_L21 (Int32.ofNat m) sm tm (Int32.ofNat s) F (fun x2_5 x3_6 x4_7 => (if x2_5 = 0 then some ((-9), (0 : Int32))
 else (if x3_6 = x2_5 then some (1, 0)
 else (if x3_6 = 0 then some (0, 0)
 else some (2, 0))))) F 0 0 0 = _ := L
    rw [L, sm_lists o]
    have w : smN (fun l => bN (fitR sg tk m 0 l && l.testBit s)) 64 = prN (fun s => fitC sg tk s m 0 true) (offB (fun s => fitC sg tk s m 0 false) s) 6 := by
      rw [← sm_pr 6]
      refine smN_congr _ (fun l _ => ?_)
      rw [fitRX o l, fitX_off 6, decide_eq_false (show ¬ 6 ≤ s by omega), Bool.false_or]
    rw [w]
    obtain ⟨R, h1, h2⟩ := pr_off (a := fun s => fitC sg tk s m 0 true) (b := fun s => fitC sg tk s m 0 false) 6 hs
    have b1 := pr_le (a := fun s => fitC sg tk s m 0 true) (b := fun s => fitC sg tk s m 0 false) 6
    have b2 := pr_le (a := fun s => fitC sg tk s m 0 true) (b := offB (fun s => fitC sg tk s m 0 false) s) 6
    simp only [nh_b1, e1, e0]
    generalize prN (fun s => fitC sg tk s m 0 true) (fun s => fitC sg tk s m 0 false) 6 = P at *
    generalize prN (fun s => fitC sg tk s m 0 true) (offB (fun s => fitC sg tk s m 0 false) s) 6 = W at *
    have zP : (Int32.ofNat P = 0) ↔ P = 0 := z_eq (a := P) (b := 0) (by omega) (by omega)
    have zW : (Int32.ofNat W = 0) ↔ W = 0 := z_eq (a := W) (b := 0) (by omega) (by omega)
    have zE : (Int32.ofNat W = Int32.ofNat P) ↔ W = P := z_eq (by omega) (by omega)
    by_cases hP : P = 0
    · exact ⟨-9, by rw [if_pos (zP.mpr hP)], by rw [if_pos (zP.mpr hP)]⟩
    · rw [if_neg (fun z => hP (zP.mp z)), if_neg (fun z => hP (zP.mp z))]
      have h1 : P = (bN (fitC sg tk s m 0 true) + bN (fitC sg tk s m 0 false)) * R := h1
      have h2 : W = bN (fitC sg tk s m 0 true) * R := h2
      cases ha : fitC sg tk s m 0 true with
      | false =>
        rw [ha] at h2
        have : W = 0 := by rw [h2]; show 0 * R = 0; omega
        exact ⟨0, by rw [if_pos (by decide)], by rw [if_neg (fun z => hP (by rw [← zE.mp z, this])), if_pos (zW.mpr this)]⟩
      | true =>
        rw [ha] at h1 h2
        have h2 : W = R := by rw [h2]; show 1 * R = R; omega
        cases hb : fitC sg tk s m 0 false with
        | false =>
          rw [hb] at h1
          have h1 : P = R := by rw [h1]; show (1 + 0) * R = R; omega
          exact ⟨1, by rw [if_neg (by decide), if_pos (by decide)], by rw [if_pos (zE.mpr (by omega))]⟩
        | true =>
          rw [hb] at h1
          have h1 : P = 2 * R := by rw [h1]; rfl
          exact ⟨2, by rw [if_neg (by decide), if_neg (by decide)], by rw [if_neg (fun z => by have := zE.mp z; omega), if_neg (fun z => by have := zW.mp z; omega)]⟩
end LISTS
