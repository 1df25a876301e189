/-! judge: the two sides alike -/
theorem z_div {a b : Nat} (ha : a < 2147483648) (h0 : 0 < b) (hb : b < 2147483648) : Int32.ofNat a / Int32.ofNat b = Int32.ofNat (a / b) := pk_div ha h0 hb
theorem z_rem {a b : Nat} (ha : a < 2147483648) (h0 : 0 < b) (hb : b < 2147483648) : Int32.ofNat a - Int32.ofNat a / Int32.ofNat b * Int32.ofNat b = Int32.ofNat (a % b) := pk_rem ha h0 hb
theorem z_100 : ∀ j : Nat, j < 5 → 100 ^ j ≤ 100000000 := by decide +kernel
theorem z_c100 : ∀ c : Nat, c < 100 → Int32.ofNat c / 10 = Int32.ofNat (c / 10) ∧ Int32.ofNat c - Int32.ofNat c / 10 * 10 = Int32.ofNat (c % 10) := by decide +kernel
theorem div_100 (t j : Nat) : t / 100 / 100 ^ j = t / 100 ^ (j + 1) := by
  rw [Nat.div_div_eq_div_mul, Nat.pow_succ, Nat.mul_comm]
theorem aC_digits (kk : Int32 → Int32 → (Nat → Int32) → Option (Int32 × (Nat → Int32) × (Nat → Int32) × (Nat → Int32))) : ∀ (j N t : Nat) (jd : Nat → Int32), j ≤ 4 → j < N → t < 2147483648 → ∃ jd', fX10_judge_L24 kk N (Int32.ofNat t) (Int32.ofNat j - 1) jd = kk (Int32.ofNat (t / 100 ^ j)) (-1) jd' ∧ (∀ i, i < j → jd' i = Int32.ofNat (t / 100 ^ (j - 1 - i) % 100)) ∧ ∀ i, j ≤ i → jd' i = jd i := by
  intro j
  induction j with
  | zero =>
    intro N t jd hj hN ht
    obtain ⟨N, rfl⟩ : ∃ M, N = M + 1 := ⟨N - 1, by omega⟩
    refine ⟨jd, ?_, fun i hi => absurd hi (Nat.not_lt_zero i), fun _ _ => rfl⟩
    show fX10_judge_B24 _ _ _ _ _ = _
    unfold fX10_judge_B24
    rw [if_pos (by decide), Nat.pow_zero, Nat.div_one]; rfl
  | succ j ih =>
    intro N t jd hj hN ht
    obtain ⟨N, rfl⟩ : ∃ M, N = M + 1 := ⟨N - 1, by omega⟩
    obtain ⟨jd', e1, e2, e3⟩ := ih N (t / 100) (upd jd j (Int32.ofNat (t % 100))) (by omega) (by omega) (by omega)
    have ej : Int32.ofNat (j + 1) - 1 = Int32.ofNat j := by rw [show (1 : Int32) = Int32.ofNat 1 from rfl, z_sub (by omega), Nat.add_sub_cancel]
    have em : Int32.ofNat j + -1 = Int32.ofNat j - 1 := Int32.add_neg_eq_sub
    refine ⟨jd', ?_, fun i hi => ?_, fun i hi => by rw [e3 i (by omega), upd_ne (by omega)]⟩
    · show fX10_judge_B24 _ _ _ _ _ = _
      unfold fX10_judge_B24
      rw [ej, if_neg (z_nn (by omega)), show (100 : Int32) = Int32.ofNat 100 from rfl, z_rem ht (by omega) (by omega), z_div ht (by omega) (by omega)]
      simp only [nh_let, z_chk (show j < 4 by omega) (show 4 < 2147483648 by omega), z_ix (show j < 2147483648 by omega), em]
      rw [e1, div_100]
    · by_cases g : i = j
      · subst g
        rw [e3 i (Nat.le_refl _), upd_same, show i + 1 - 1 - i = 0 by omega, Nat.pow_zero, Nat.div_one]
      · rw [e2 i (by omega), div_100, show j - 1 - i + 1 = j + 1 - 1 - i by omega]
theorem mM_whole {a : Int32} {m : Nat} (hm : m ≤ 4) (h1 : ∀ i, i < m → ¬ a ≤ Int32.ofNat i) (h2 : a ≤ Int32.ofNat m ∨ m = 4) (kk : Int32 → Int32 → Option (Int32 × Int32 × (Nat → Int32) × (Nat → Int32))) : ∀ (j i N : Nat), i + j = m → j < N → fX11_judge_L10 a kk N (Int32.ofNat (100 ^ i)) (Int32.ofNat i) = kk (Int32.ofNat (100 ^ m)) (Int32.ofNat m) := by
  intro j
  induction j with
  | zero =>
    intro i N hi hN
    obtain ⟨N, rfl⟩ : ∃ M, N = M + 1 := ⟨N - 1, by omega⟩
    show fX11_judge_B10 _ _ _ _ _ = _
    unfold fX11_judge_B10
    rw [show i = m by omega]
    rcases h2 with h2 | h2
    · rw [if_pos h2]
    · by_cases g : a ≤ Int32.ofNat m
      · rw [if_pos g]
      · rw [if_neg g, if_pos (show (4 : Int32) ≤ Int32.ofNat m from (z_le (a := 4) (b := m) (by omega) (by omega)).mpr (by omega))]
  | succ j ih =>
    intro i N hi hN
    obtain ⟨N, rfl⟩ : ∃ M, N = M + 1 := ⟨N - 1, by omega⟩
    have I := ih (i + 1) N (by omega) (by omega)
    show fX11_judge_B10 _ _ _ _ _ = _
    unfold fX11_judge_B10
    rw [if_neg (h1 i (by omega)), if_neg (show ¬ (4 : Int32) ≤ Int32.ofNat i from fun z => absurd ((z_le (a := 4) (b := i) (by omega) (by omega)).mp z) (by omega)), show (100 : Int32) = Int32.ofNat 100 from rfl, z_mul, ← Nat.pow_succ]
    simp only [nh_let, z_succ]
    exact I
theorem can_no {n : Nat} {hd kn : Nat → Int32} {x y : Int32} (e : fX1_has (Int32.ofNat n) x = 0 ∨ fX1_has (Int32.ofNat n) y = 0) : fX1_canSwap (Int32.ofNat n) hd kn x y = some 0 := by
  unfold fX1_canSwap
  by_cases g : fX1_has (Int32.ofNat n) x = 0
  · rw [if_pos g]
  · rw [if_neg g, if_pos (e.resolve_left g)]
theorem judge_facts {t j : Nat} (ht : t < 2147483648) (hj : j < 4) : ∃ D, D = t / 100 ^ j % 100 ∧ D < 100 ∧ Int32.ofNat (100 ^ (j + 1)) / 100 = Int32.ofNat (100 ^ j) ∧ decide (¬ Int32.ofNat (100 ^ j) = 0) = true ∧ Int32.ofNat t / Int32.ofNat (100 ^ j) - Int32.ofNat t / Int32.ofNat (100 ^ j) / 100 * 100 = Int32.ofNat D := by
  have ppos : 0 < 100 ^ j := Nat.pow_pos (by omega)
  have p100 : 100 ^ j ≤ 100000000 := z_100 j (by omega)
  have e1 : Int32.ofNat (100 ^ (j + 1)) / 100 = Int32.ofNat (100 ^ j) := by
    have : ∀ j : Nat, j < 4 → Int32.ofNat (100 ^ (j + 1)) / 100 = Int32.ofNat (100 ^ j) := by decide +kernel
    exact this j hj
  generalize 100 ^ j = P at ppos p100 e1 ⊢
  have hle : t / P ≤ t := Nat.div_le_self _ _
  refine ⟨t / P % 100, rfl, Nat.mod_lt _ (by omega), e1, decide_eq_true (fun z => ?_), ?_⟩
  · have := (z_eq (a := P) (b := 0) (by omega) (by omega)).mp z
    omega
  · rw [z_div ht ppos (by omega), show (100 : Int32) = Int32.ofNat 100 from rfl, z_rem (by omega) (by omega) (by omega)]
section JUDGE
variable {n K t : Nat} {hd0 kn0 jd : Nat → Int32}
theorem judge_walk (hK : K ≤ 4) (ht : t < 2147483648) (hjd : ∀ i, i < K → jd i = Int32.ofNat (t / 100 ^ (K - 1 - i) % 100)) {F : Nat} (hF : 10 ≤ F) : ∀ (j m N N' : Nat) (h k : Nat → Nat) (hd kn had holds : Nat → Int32), m + j = K → j < N → j < N' → pOk n h k → pC n h k hd kn → pM n h k had holds 1 → (∀ (kk : Int32 → (Nat → Int32) → (Nat → Int32) → Option (Int32 × (Nat → Int32) × (Nat → Int32))) (M : Nat), m < M → fX10_firstThatMayNotBe_L70 jd (Int32.ofNat n) kk M (Int32.ofNat m - 1) hd kn = kk (-1) hd0 kn0) → ∃ r had' holds', fX10_firstThatMayNotBe_L2 jd (Int32.ofNat n) (Int32.ofNat K) (fun x2_4 t_people_held_5 t_people_known_6 => nh_let (α := Int32) ((x2_4 - 1)) (fun y_19 => fX10_firstThatMayNotBe_L70 jd (Int32.ofNat n) (fun x3_23 t_people_held_24 t_people_known_25 => (if Int32.ofNat K ≤ x2_4 then some ((-9), t_people_held_24, t_people_known_25)
 else some (x2_4, t_people_held_24, t_people_known_25))) F y_19 t_people_held_5 t_people_known_6)) N (Int32.ofNat m) hd kn = some (r, hd0, kn0) ∧ fX11_judge_L70 (Int32.ofNat n) (Int32.ofNat K) (Int32.ofNat t) (fun x3_18 x4_19 t_had_20 t_holds_21 => some ((-9), 0, t_had_20, t_holds_21)) N' (Int32.ofNat (100 ^ j)) (Int32.ofNat m) had holds = some (r, 0, had', holds') ∧ ∀ q, q < 4 → had' q = had q ∧ holds' q = holds q := by
  intro j
  induction j with
  | zero =>
    intro m N N' h k hd kn had holds hm hN hN' ok c cm inv
    obtain ⟨N, rfl⟩ : ∃ M, N = M + 1 := ⟨N - 1, by omega⟩
    obtain ⟨N', rfl⟩ : ∃ M, N' = M + 1 := ⟨N' - 1, by omega⟩
    have hmK : m = K := by omega
    subst hmK
    refine ⟨-9, had, holds, ?_, ?_, fun _ _ => ⟨rfl, rfl⟩⟩
    · show fX10_firstThatMayNotBe_B2 _ _ _ _ _ _ _ _ = _
      unfold fX10_firstThatMayNotBe_B2
      rw [if_pos (Int32.le_refl _)]
      simp only [nh_let]
      rw [inv _ F (by omega), if_pos (Int32.le_refl _)]
    · show fX11_judge_B70 _ _ _ _ _ _ _ _ _ = _
      unfold fX11_judge_B70
      rw [if_pos (Int32.le_refl _)]
  | succ j ih =>
    intro m N N' h k hd kn had holds hm hN hN' ok c cm inv
    have hn := ok.1
    obtain ⟨N, rfl⟩ : ∃ M, N = M + 1 := ⟨N - 1, by omega⟩
    obtain ⟨N', rfl⟩ : ∃ M, N' = M + 1 := ⟨N' - 1, by omega⟩
    obtain ⟨D, eD, hD, ey, ene, et⟩ := judge_facts (j := j) ht (by omega)
    have ejd : jd m = Int32.ofNat D := by rw [hjd m (by omega), show K - 1 - m = j by omega, eD]
    obtain ⟨z1, z2⟩ := z_c100 _ hD
    have z3 := z2
    rw [z1] at z3
    clear eD
    generalize 100 ^ (j + 1) = P1 at ey ⊢
    generalize 100 ^ j = P at ih ey ene et ⊢
    -- the class stops here
    have stopC : fX1_canSwap (Int32.ofNat n) hd kn (Int32.ofNat (D / 10)) (Int32.ofNat (D % 10)) = some 0 → fX10_firstThatMayNotBe_L2 jd (Int32.ofNat n) (Int32.ofNat K) (fun x2_4 t_people_held_5 t_people_known_6 => nh_let (α := Int32) ((x2_4 - 1)) (fun y_19 => fX10_firstThatMayNotBe_L70 jd (Int32.ofNat n) (fun x3_23 t_people_held_24 t_people_known_25 => (if Int32.ofNat K ≤ x2_4 then some ((-9), t_people_held_24, t_people_known_25)
 else some (x2_4, t_people_held_24, t_people_known_25))) F y_19 t_people_held_5 t_people_known_6)) (N + 1) (Int32.ofNat m) hd kn = some (Int32.ofNat m, hd0, kn0) := by
      intro e
      show fX10_firstThatMayNotBe_B2 _ _ _ _ _ _ _ _ = _
      unfold fX10_firstThatMayNotBe_B2
      rw [if_neg (fun q => absurd ((z_le (by omega) (by omega)).mp q) (by omega)), z_chk (show m < 4 by omega) (by omega), z_chk (show m < 4 by omega) (by omega), z_ix (by omega), ejd, z2, z1, e]
      simp only [nh_b1, nh_let]
      rw [if_pos trivial]
      rw [inv _ F (by omega), if_neg (fun q => absurd ((z_le (by omega) (by omega)).mp q) (by omega))]
    have hMM : fX11_judge_L70 (Int32.ofNat n) (Int32.ofNat K) (Int32.ofNat t) (fun x3_18 x4_19 t_had_20 t_holds_21 => some ((-9), 0, t_had_20, t_holds_21)) (N' + 1) (Int32.ofNat P1) (Int32.ofNat m) had holds = (if (fX11_noOne (Int32.ofNat n) (Int32.ofNat (D / 10))) = 0 then (if (fX11_noOne (Int32.ofNat n) (Int32.ofNat (D % 10))) = 0 then nh_b1 (fX11_mayAt had holds 1 (Int32.ofNat (D / 10)) (Int32.ofNat (D % 10))) (fun r_30 => (if r_30 = 0 then some (Int32.ofNat m, 0, had, holds)
 else nh_b2 (fX11_goAt had holds 1 (Int32.ofNat (D / 10)) (Int32.ofNat (D % 10))) (fun t_had_33 t_holds_34 => fX11_judge_L70 (Int32.ofNat n) (Int32.ofNat K) (Int32.ofNat t) (fun x3_18 x4_19 t_had_20 t_holds_21 => some ((-9), 0, t_had_20, t_holds_21)) N' (Int32.ofNat P) (Int32.ofNat (m + 1)) t_had_33 t_holds_34)))
 else some (Int32.ofNat m, 0, had, holds))
 else some (Int32.ofNat m, 0, had, holds)) := by
      show fX11_judge_B70 _ _ _ _ _ _ _ _ _ = _
      unfold fX11_judge_B70
      rw [if_neg (fun q => absurd ((z_le (by omega) (by omega)).mp q) (by omega))]
      simp only [nh_let, ey, ene, chk_t, et, z1, z3, z_succ]
    rw [hMM]
    rcases mM_noOne_or hn (Int32.ofNat (D / 10)) with ⟨e1, e2⟩ | ⟨p, hp, ep, e1, e2⟩
    · refine ⟨Int32.ofNat m, had, holds, stopC (can_no (Or.inl e2)), ?_, fun _ _ => ⟨rfl, rfl⟩⟩
      rw [e1, if_neg (by decide)]
    · rcases mM_noOne_or hn (Int32.ofNat (D % 10)) with ⟨f1, f2⟩ | ⟨q, hq, eq, f1, f2⟩
      · refine ⟨Int32.ofNat m, had, holds, stopC (can_no (Or.inr f2)), ?_, fun _ _ => ⟨rfl, rfl⟩⟩
        rw [e1, if_pos rfl, f1, if_neg (by decide)]
      · rw [e1, if_pos rfl, f1, if_pos rfl]
        rw [ep] at stopC z1
        rw [eq] at stopC z2
        rw [ep, eq, show (fX11_mayAt had holds 1 (Int32.ofNat p) (Int32.ofNat q)) = _ from mM_may ok cm (by omega) hp hq]
        simp only [nh_b1]
        by_cases hc : canB h k p q = true
        · rw [hc, if_neg (by decide)]
          obtain ⟨hd', kn', s1, s2, s3, s4⟩ := aC_swap ok c hp hq hc
          obtain ⟨had', holds', g1, g2, g3⟩ := mM_go ok cm (by omega) hp hq hc
          have g1 : fX11_goAt had holds 1 (Int32.ofNat p) (Int32.ofNat q) = some (had', holds') := g1
          rw [g1]
          simp only [nh_b2]
          obtain ⟨r, had2, holds2, i1, i2, i3⟩ := ih (m + 1) N N' (swH h p q) (swK h k p q) hd' kn' had' holds' (by omega) (by omega) (by omega) s3 s2 g2 (fun kk M hM => by
            obtain ⟨M, rfl⟩ : ∃ M', M = M' + 1 := ⟨M - 1, by omega⟩
            show fX10_firstThatMayNotBe_B70 _ _ _ (fX10_firstThatMayNotBe_L70 jd (Int32.ofNat n) kk M) _ _ _ = _
            unfold fX10_firstThatMayNotBe_B70
            rw [show Int32.ofNat (m + 1) - 1 = Int32.ofNat m by rw [show (1 : Int32) = Int32.ofNat 1 from rfl, z_sub (by omega), Nat.add_sub_cancel], if_neg (z_nn (by omega)), z_chk (show m < 4 by omega) (by omega), z_chk (show m < 4 by omega) (by omega), z_ix (by omega), ejd, z2, z1, s4]
            simp only [nh_b2, nh_let]
            rw [show Int32.ofNat m + -1 = Int32.ofNat m - 1 from Int32.add_neg_eq_sub]
            exact inv kk M (by omega))
          refine ⟨r, had2, holds2, ?_, i2, fun x hx => by rw [(i3 x hx).1, (i3 x hx).2]; exact g3 x (by omega)⟩
          show fX10_firstThatMayNotBe_B2 _ _ _ _ _ _ _ _ = _
          unfold fX10_firstThatMayNotBe_B2
          rw [if_neg (fun q => absurd ((z_le (by omega) (by omega)).mp q) (by omega)), z_chk (show m < 4 by omega) (by omega), z_chk (show m < 4 by omega) (by omega), z_ix (by omega), ejd, z2, z1, aC_can ok c hp hq, hc]
          simp only [nh_b1, z_chk (show m < 4 by omega) (show 4 < 2147483648 by omega)]
          rw [if_neg (by decide), s1]
          simp only [nh_b2, nh_let, z_succ]
          exact i1
        · have hcf : canB h k p q = false := by simpa using hc
          refine ⟨Int32.ofNat m, had, holds, stopC (by rw [aC_can ok c hp hq, hcf]; rfl), ?_, fun _ _ => ⟨rfl, rfl⟩⟩
          rw [hcf, if_pos (by decide)]
end JUDGE
theorem z_14 (a : Int32) : (a < 1) ∨ (¬ a < 1 ∧ 4 < a) ∨ ∃ K : Nat, a = Int32.ofNat K ∧ 1 ≤ K ∧ K ≤ 4 := by
  by_cases h1 : a < 1
  · exact Or.inl h1
  · by_cases h4 : 4 < a
    · exact Or.inr (Or.inl ⟨h1, h4⟩)
    · right; right
      rcases z_cases a with g | ⟨K, rfl, hK⟩
      · refine absurd ?_ h1
        rw [Int32.lt_iff_toInt_lt] at g ⊢
        have e0 : (0 : Int32).toInt = 0 := rfl
        have e1 : (1 : Int32).toInt = 1 := rfl
        omega
      · refine ⟨K, rfl, ?_, ?_⟩
        · have : ¬ K < 1 := fun q => h1 ((z_lt (a := K) (b := 1) hK (by omega)).mpr q)
          omega
        · have : ¬ 4 < K := fun q => h4 ((z_lt (a := 4) (b := K) (by omega) hK).mpr q)
          omega
section JUDGE2
variable {n : Nat} {h k : Nat → Nat} {hd kn had holds : Nat → Int32}
theorem pair_judge (ok : pOk n h k) (c : pC n h k hd kn) (cm : pM n h k had holds 0) {F : Nat} (hF : 10 ≤ F) (jd : Nat → Int32) (a b th : Int32) : ∃ r jd' had' holds', fX10_judge F jd (Int32.ofNat n) hd kn a b = some (r, jd', hd, kn) ∧ fX11_judge F th (Int32.ofNat n) had holds a b = some (r, 0, had', holds') ∧ pM n h k had' holds' 0 := by
  have hn := ok.1
  have hin : fX11_in (Int32.toInt64 a) 1 4 = b01 (decide (1 ≤ a ∧ a ≤ 4)) := by
    rw [show (1 : Int64) = Int32.toInt64 1 from rfl, show (4 : Int64) = Int32.toInt64 4 from rfl, mM_in]
  rcases z_14 a with g | ⟨g0, g⟩ | ⟨K, rfl, K1, K4⟩
  · refine ⟨-2, jd, had, holds, ?_, ?_, cm⟩
    · unfold fX10_judge; rw [if_pos g]
    · unfold fX11_judge
      have L := mM_whole (a := a) (m := 0) (by omega) (fun i hi => absurd hi (Nat.not_lt_zero i)) (Or.inl (show a ≤ Int32.ofNat 0 from by
        rw [Int32.lt_iff_toInt_lt] at g
        rw [Int32.le_iff_toInt_le, z_toInt (by omega)]
        have e1 : (1 : Int32).toInt = 1 := rfl
        omega)) (fun x3_3 x4_4 => (if (fX11_in (Int32.toInt64 a) 1 4) = 0 then some ((-2), 0, had, holds)
 else (if (fX11_in (Int32.toInt64 b) 0 (Int32.toInt64 (x3_3 - 1))) = 0 then some ((-2), 0, had, holds)
 else nh_b2 (fX11_layAt F (Int32.ofNat n) had holds 0 1) (fun t_had_11 t_holds_12 => fX11_judge_L70 (Int32.ofNat n) a b (fun x3_18 x4_19 t_had_20 t_holds_21 => some ((-9), 0, t_had_20, t_holds_21)) F x3_3 0 t_had_11 t_holds_12)))) 0 0 F (by omega) (by omega)
      refine (show _ = _ from L).trans ?_
      rw [hin, decide_eq_false (fun z => Int32.not_lt.mpr z.1 g), if_pos (by decide)]
  · refine ⟨-2, jd, had, holds, ?_, ?_, cm⟩
    · unfold fX10_judge; rw [if_neg g0, if_pos g]
    · unfold fX11_judge
      have L := mM_whole (a := a) (m := 4) (by omega) (fun i hi z => by
        rw [Int32.lt_iff_toInt_lt] at g
        rw [Int32.le_iff_toInt_le, z_toInt (by omega)] at z
        have e1 : (4 : Int32).toInt = 4 := rfl
        omega) (Or.inr rfl) (fun x3_3 x4_4 => (if (fX11_in (Int32.toInt64 a) 1 4) = 0 then some ((-2), 0, had, holds)
 else (if (fX11_in (Int32.toInt64 b) 0 (Int32.toInt64 (x3_3 - 1))) = 0 then some ((-2), 0, had, holds)
 else nh_b2 (fX11_layAt F (Int32.ofNat n) had holds 0 1) (fun t_had_11 t_holds_12 => fX11_judge_L70 (Int32.ofNat n) a b (fun x3_18 x4_19 t_had_20 t_holds_21 => some ((-9), 0, t_had_20, t_holds_21)) F x3_3 0 t_had_11 t_holds_12)))) 4 0 F (by omega) (by omega)
      refine (show _ = _ from L).trans ?_
      rw [hin, decide_eq_false (fun z => Int32.not_le.mpr g z.2), if_pos (by decide)]
  · have k1 : ¬ Int32.ofNat K < 1 := fun z => absurd ((z_lt (a := K) (b := 1) (by omega) (by omega)).mp z) (by omega)
    have k4 : ¬ (4 : Int32) < Int32.ofNat K := fun z => absurd ((z_lt (a := 4) (b := K) (by omega) (by omega)).mp z) (by omega)
    have p100 := z_100 K (by omega)
    have ppos : 0 < 100 ^ K := Nat.pow_pos (by omega)
    have L := mM_whole (a := Int32.ofNat K) (m := K) K4 (fun i hi z => absurd ((z_le (by omega) (by omega)).mp z) (by omega)) (Or.inl (Int32.le_refl _)) (fun x3_3 x4_4 => (if (fX11_in (Int32.toInt64 (Int32.ofNat K)) 1 4) = 0 then some ((-2), 0, had, holds)
 else (if (fX11_in (Int32.toInt64 b) 0 (Int32.toInt64 (x3_3 - 1))) = 0 then some ((-2), 0, had, holds)
 else nh_b2 (fX11_layAt F (Int32.ofNat n) had holds 0 1) (fun t_had_11 t_holds_12 => fX11_judge_L70 (Int32.ofNat n) (Int32.ofNat K) b (fun x3_18 x4_19 t_had_20 t_holds_21 => some ((-9), 0, t_had_20, t_holds_21)) F x3_3 0 t_had_11 t_holds_12)))) K 0 F (by omega) (by omega)
    have hJM : fX11_judge F th (Int32.ofNat n) had holds (Int32.ofNat K) b = _ := L
    rw [hJM, hin, decide_eq_true (show 1 ≤ Int32.ofNat K ∧ Int32.ofNat K ≤ 4 from ⟨Int32.not_lt.mp k1, Int32.not_lt.mp k4⟩), if_neg (show ¬ b01 true = 0 by decide), show (0 : Int64) = Int32.toInt64 0 from rfl, mM_in]
    unfold fX10_judge
    rw [if_neg k1, if_neg k4]
    rcases z_cases b with gb | ⟨t, rfl, ht⟩
    · refine ⟨-2, jd, had, holds, ?_, ?_, cm⟩
      · rw [if_neg (Int32.not_le.mpr gb)]
      · rw [decide_eq_false (fun z => Int32.not_lt.mpr z.1 gb), if_pos (by decide)]
    · have hb0 : (0 : Int32) ≤ Int32.ofNat t := Int32.not_lt.mp (z_nn ht)
      rw [if_pos hb0]
      simp only [nh_let]
      have hpred : (Int32.ofNat t ≤ Int32.ofNat (100 ^ K) - 1) ↔ t < 100 ^ K := by
        rw [show (1 : Int32) = Int32.ofNat 1 from rfl, z_sub (by omega), z_le (by omega) (by omega)]; omega
      obtain ⟨jd', d1, d2, -⟩ := aC_digits (fun x3_8 x4_9 t_judged_10 => (if x3_8 = 0 then nh_b3 (fX10_firstThatMayNotBe F t_judged_10 (Int32.ofNat n) hd kn (Int32.ofNat K)) (fun r_17 t_people_held_18 t_people_known_19 => some (r_17, t_judged_10, t_people_held_18, t_people_known_19))
 else some ((-2), t_judged_10, hd, kn))) K F t jd K4 (by omega) ht
      rw [d1]
      by_cases hlt : t < 100 ^ K
      · rw [Nat.div_eq_of_lt hlt, if_pos (show Int32.ofNat 0 = 0 from rfl), decide_eq_true (show (0 : Int32) ≤ Int32.ofNat t ∧ Int32.ofNat t ≤ Int32.ofNat (100 ^ K) - 1 from ⟨hb0, hpred.mpr hlt⟩), if_neg (show ¬ b01 true = 0 by decide)]
        obtain ⟨had1, holds1, l1, l2, l3⟩ := mM_lay (F := F) hn cm (show 0 < 14 by omega) (show 1 < 14 by omega) (by omega) (by omega)
        have l1 : fX11_layAt F (Int32.ofNat n) had holds 0 1 = some (had1, holds1) := l1
        rw [l1]
        simp only [nh_b2]
        obtain ⟨r, had2, holds2, w1, w2, w3⟩ := judge_walk (n := n) (hd0 := hd) (kn0 := kn) (jd := jd') K4 ht d2 hF K 0 F F h k hd kn had1 holds1 (by omega) (by omega) (by omega) ok c l2 (fun kk M hM => by
          obtain ⟨M, rfl⟩ : ∃ M', M = M' + 1 := ⟨M - 1, by omega⟩
          show fX10_firstThatMayNotBe_B70 _ _ _ _ _ _ _ = _
          unfold fX10_firstThatMayNotBe_B70
          rw [if_pos (by decide)]
          rfl)
        refine ⟨r, jd', had2, holds2, ?_, w2, keep4 hn cm (fun q hq => by rw [(w3 q hq).1, (w3 q hq).2]; exact l3 q (by omega))⟩
        unfold fX10_firstThatMayNotBe
        rw [show (fX10_firstThatMayNotBe_L2 jd' (Int32.ofNat n) (Int32.ofNat K) (fun x2_4 t_people_held_5 t_people_known_6 => nh_let (α := Int32) ((x2_4 - 1)) (fun y_19 => fX10_firstThatMayNotBe_L70 jd' (Int32.ofNat n) (fun x3_23 t_people_held_24 t_people_known_25 => (if Int32.ofNat K ≤ x2_4 then some ((-9), t_people_held_24, t_people_known_25)
 else some (x2_4, t_people_held_24, t_people_known_25))) F y_19 t_people_held_5 t_people_known_6)) F 0 hd kn) = _ from w1]
        rfl
      · have hdv : ¬ t / 100 ^ K = 0 := fun z => hlt (Nat.lt_of_div_eq_zero ppos z)
        have hdle : t / 100 ^ K ≤ t := Nat.div_le_self _ _
        refine ⟨-2, jd', had, holds, ?_, ?_, cm⟩
        · rw [if_neg (show ¬ Int32.ofNat (t / 100 ^ K) = 0 from fun z => hdv ((z_eq (a := t / 100 ^ K) (b := 0) (by omega) (by omega)).mp z))]
        · rw [decide_eq_false (fun z => hlt (hpred.mp z.2)), if_pos (by decide)]
end JUDGE2
