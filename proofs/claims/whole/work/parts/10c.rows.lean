/-! the reference's rows -/
def pM (n : Nat) (h k : Nat → Nat) (had holds : Nat → Int32) (d : Nat) : Prop := ∀ p, p < n → holds (4 * d + p) = Int32.ofNat (h p) ∧ had (4 * d + p) = Int32.ofNat (k p)
theorem z_i64 (x y : Int32) : (Int32.toInt64 x < Int32.toInt64 y) ↔ x < y := by
  rw [Int64.lt_iff_toInt_lt, Int32.lt_iff_toInt_lt, Int32.toInt_toInt64, Int32.toInt_toInt64]
theorem mM_in (x a b : Int32) : fX11_in (Int32.toInt64 x) (Int32.toInt64 a) (Int32.toInt64 b) = b01 (decide (a ≤ x ∧ x ≤ b)) := by
  unfold fX11_in b01
  by_cases h1 : x < a
  · rw [if_pos ((lg_cmp_lt _ _).mpr ((z_i64 _ _).mpr h1)), decide_eq_false (fun q => Int32.not_lt.mpr q.1 h1)]; rfl
  · rw [if_neg (fun q => h1 ((z_i64 _ _).mp ((lg_cmp_lt _ _).mp q)))]
    by_cases h2 : b < x
    · rw [if_pos ((lg_cmp_gt _ _).mpr ((z_i64 _ _).mpr h2)), decide_eq_false (fun q => Int32.not_lt.mpr q.2 h2)]; rfl
    · rw [if_neg (fun q => h2 ((z_i64 _ _).mp ((lg_cmp_gt _ _).mp q))), decide_eq_true ⟨Int32.not_lt.mp h1, Int32.not_lt.mp h2⟩]; rfl
theorem z_pred {n p : Nat} (hn : n ≤ 100) (hp : p < 2147483648) : (Int32.ofNat p ≤ Int32.ofNat n - 1) ↔ p < n := by
  cases n with
  | zero =>
    rw [show Int32.ofNat 0 - 1 = (-1 : Int32) from rfl, Int32.le_iff_toInt_le, z_toInt hp, show (-1 : Int32).toInt = -1 from rfl]; omega
  | succ n =>
    rw [show (1 : Int32) = Int32.ofNat 1 from rfl, z_sub (by omega), z_le hp (by omega)]; omega
theorem mM_noOne_or {n : Nat} (hn : n ≤ 4) (x : Int32) : (fX11_noOne (Int32.ofNat n) x = 1 ∧ fX1_has (Int32.ofNat n) x = 0) ∨ ∃ p : Nat, p < n ∧ x = Int32.ofNat p ∧ fX11_noOne (Int32.ofNat n) x = 0 ∧ fX1_has (Int32.ofNat n) x = 1 := by
  have e0 : (0 : Int64) = Int32.toInt64 0 := rfl
  unfold fX11_noOne
  rw [e0, mM_in]
  rcases z_cases x with h | ⟨p, rfl, hp⟩
  · left
    rw [decide_eq_false (fun q => Int32.not_lt.mpr q.1 h)]
    exact ⟨rfl, aC_hasN h⟩
  · by_cases hpn : p < n
    · right
      refine ⟨p, hpn, rfl, ?_, aC_has1 hn hpn⟩
      rw [decide_eq_true ⟨Int32.not_lt.mp (z_nn hp), (z_pred (by omega) hp).mpr hpn⟩]; rfl
    · left
      rw [decide_eq_false (fun q => hpn ((z_pred (by omega) hp).mp q.2)), aC_has hn hp, decide_eq_false hpn]
      exact ⟨rfl, rfl⟩
theorem mM_noOne {n p : Nat} (hn : n ≤ 4) (hp : p < n) : fX11_noOne (Int32.ofNat n) (Int32.ofNat p) = 0 := by
  rcases mM_noOne_or hn (Int32.ofNat p) with ⟨-, h⟩ | ⟨q, -, -, h, -⟩
  · rw [aC_has1 hn hp] at h; exact absurd h (by decide)
  · exact h
theorem mM_noSort_or (x : Int32) : (fX11_noSort x = 1 ∧ fX10_isSort x = 0) ∨ ∃ s : Nat, s < 6 ∧ x = Int32.ofNat s ∧ fX11_noSort x = 0 ∧ fX10_isSort x = 1 := by
  have e0 : (0 : Int64) = Int32.toInt64 0 := rfl
  have e5 : (5 : Int64) = Int32.toInt64 5 := rfl
  unfold fX11_noSort
  rw [e0, e5, mM_in]
  rcases z_cases x with h | ⟨p, rfl, hp⟩
  · left
    rw [decide_eq_false (fun q => Int32.not_lt.mpr q.1 h)]
    exact ⟨rfl, by unfold fX10_isSort; rw [if_pos h]⟩
  · have e : (Int32.ofNat p ≤ 5) ↔ p < 6 := by rw [show (5 : Int32) = Int32.ofNat 5 from rfl, z_le hp (by omega)]; omega
    by_cases hpn : p < 6
    · right
      refine ⟨p, hpn, rfl, ?_, ?_⟩
      · rw [decide_eq_true ⟨Int32.not_lt.mp (z_nn hp), e.mpr hpn⟩]; rfl
      · rw [aC_isSort hp, decide_eq_true hpn]; rfl
    · left
      rw [decide_eq_false (fun q => hpn (e.mp q.2)), aC_isSort hp, decide_eq_false hpn]
      exact ⟨rfl, rfl⟩
theorem mM_has : ∀ k : Nat, k < 64 → ∀ s : Nat, s < 6 → fX11_has (Int32.ofNat k) (Int32.ofNat s) = b01 (k.testBit s) := by decide +kernel
theorem z_row (d p : Nat) : (4 : Int32) * Int32.ofNat d + Int32.ofNat p = Int32.ofNat (4 * d + p) := by
  rw [show (4 : Int32) = Int32.ofNat 4 from rfl, z_mul, z_add]
theorem z_eq6 {h : Nat} (hh : h ≤ 6) : (Int32.ofNat h = 6) ↔ h = 6 := by
  rw [show (6 : Int32) = Int32.ofNat 6 from rfl, z_eq (by omega) (by omega)]
theorem mM_may {n : Nat} {h k : Nat → Nat} {had holds : Nat → Int32} {d : Nat} (ok : pOk n h k) (c : pM n h k had holds d) (hd : d < 14) {i j : Nat} (hi : i < n) (hj : j < n) : fX11_mayAt had holds (Int32.ofNat d) (Int32.ofNat i) (Int32.ofNat j) = some (b01 (canB h k i j)) := by
  obtain ⟨hn, hv⟩ := ok
  have vi := hv i hi
  have vj := hv j hj
  unfold fX11_mayAt
  simp only [z_row, z_chk (show 4 * d + i < 56 by omega) (by omega), z_chk (show 4 * d + j < 56 by omega) (by omega), nh_let, z_ix (show 4 * d + i < 2147483648 by omega), z_ix (show 4 * d + j < 2147483648 by omega), (c i hi).1, (c i hi).2, (c j hj).1, (c j hj).2, z_eq6 vi.1, z_eq6 vj.1, z_eq (show i < 2147483648 by omega) (show j < 2147483648 by omega)]
  by_cases hij : i = j
  · subst hij
    rw [if_pos rfl]
    unfold canB
    by_cases h6 : h i < 6
    · rw [vi.2.2 h6, decide_eq_true h6]; rfl
    · rw [decide_eq_false h6]; rfl
  · rw [if_neg hij]
    by_cases a : h i = 6
    · rw [if_pos a]; unfold canB; rw [decide_eq_false (by omega)]; rfl
    · rw [if_neg a]
      by_cases b : h j = 6
      · rw [if_pos b]; unfold canB; rw [decide_eq_true (show h i < 6 by omega), decide_eq_false (show ¬ h j < 6 by omega)]; rfl
      · rw [if_neg b, mM_has _ vi.2.1 _ (by omega), mM_has _ vj.2.1 _ (by omega)]
        unfold canB
        rw [decide_eq_true (show h i < 6 by omega), decide_eq_true (show h j < 6 by omega)]
        cases (k i).testBit (h j) <;> cases (k j).testBit (h i) <;> rfl
theorem z_idx {d e p q : Nat} (hp : p < 4) (hq : q < 4) : (4 * d + p = 4 * e + q) ↔ (d = e ∧ p = q) := by omega
/-- an exchange at a depth: that row alone -/
theorem mM_go {n : Nat} {h k : Nat → Nat} {had holds : Nat → Int32} {d : Nat} (ok : pOk n h k) (c : pM n h k had holds d) (hd : d < 14) {i j : Nat} (hi : i < n) (hj : j < n) (hc : canB h k i j = true) : ∃ had' holds', fX11_goAt had holds (Int32.ofNat d) (Int32.ofNat i) (Int32.ofNat j) = some (had', holds') ∧ pM n (swH h i j) (swK h k i j) had' holds' d ∧ ∀ q, q < 4 * d ∨ 4 * d + 4 ≤ q → had' q = had q ∧ holds' q = holds q := by
  obtain ⟨hn, hv⟩ := id ok
  have vi := hv i hi
  have vj := hv j hj
  have hcc := hc
  unfold canB at hcc
  simp only [Bool.and_eq_true, decide_eq_true_eq, Bool.not_eq_true'] at hcc
  obtain ⟨⟨⟨h1, h2⟩, h3⟩, h4⟩ := hcc
  have hij : i ≠ j := by
    intro e; subst e
    rw [vi.2.2 h1] at h3; cases h3
  have nij : 4 * d + i ≠ 4 * d + j := by omega
  have ci := c i hi
  have cj := c j hj
  refine ⟨upd (upd had (4 * d + i) (Int32.ofNat (k i ||| 2 ^ h j))) (4 * d + j) (Int32.ofNat (k j ||| 2 ^ h i)), upd (upd holds (4 * d + i) (Int32.ofNat (h j))) (4 * d + j) (Int32.ofNat (h i)), ?_, ?_, ?_⟩
  · unfold fX11_goAt
    simp only [z_row, z_chk (show 4 * d + i < 56 by omega) (by omega), z_chk (show 4 * d + j < 56 by omega) (by omega), nh_let, z_ix (show 4 * d + i < 2147483648 by omega), z_ix (show 4 * d + j < 2147483648 by omega)]
    simp only [upd_same, upd_ne nij, upd_ne (Ne.symm nij), ci.1, ci.2, cj.1, cj.2, z_or _ vi.2.1 _ h2, z_or _ vj.2.1 _ h1]
  · intro p hp
    unfold swH swK
    by_cases hpj : p = j
    · subst hpj
      rw [upd_same, upd_same, if_neg (Ne.symm hij), if_pos rfl, if_neg (Ne.symm hij), if_pos rfl]
      exact ⟨rfl, rfl⟩
    · rw [upd_ne (show 4 * d + p ≠ 4 * d + j by omega), upd_ne (show 4 * d + p ≠ 4 * d + j by omega)]
      by_cases hpi : p = i
      · subst hpi
        rw [upd_same, upd_same, if_pos rfl, if_pos rfl]
        exact ⟨rfl, rfl⟩
      · rw [upd_ne (show 4 * d + p ≠ 4 * d + i by omega), upd_ne (show 4 * d + p ≠ 4 * d + i by omega), if_neg hpi, if_neg hpj, if_neg hpi, if_neg hpj]
        exact c p hp
  · intro q hq
    rw [upd_ne (by omega), upd_ne (by omega), upd_ne (by omega), upd_ne (by omega)]
    exact ⟨rfl, rfl⟩
theorem mM_lay_loop {n : Nat} {h k : Nat → Nat} (hn : n ≤ 4) {d e : Nat} (hd : d < 14) (he : e < 14) (hde : d ≠ e) (kk : Int32 → (Nat → Int32) → (Nat → Int32) → Option ((Nat → Int32) × (Nat → Int32))) : ∀ (j i N : Nat) (had holds : Nat → Int32), i + j = n → j < N → pM n h k had holds d → (∀ p, p < i → holds (4 * e + p) = Int32.ofNat (h p) ∧ had (4 * e + p) = Int32.ofNat (k p)) → ∃ had' holds', fX11_layAt_L2 (Int32.ofNat n) (Int32.ofNat d) (Int32.ofNat e) kk N (Int32.ofNat i) had holds = kk (Int32.ofNat n) had' holds' ∧ pM n h k had' holds' e ∧ ∀ q, q < 4 * e ∨ 4 * e + 4 ≤ q → had' q = had q ∧ holds' q = holds q := by
  intro j
  induction j with
  | zero =>
    intro i N had holds hi hN c a
    obtain ⟨N, rfl⟩ : ∃ M, N = M + 1 := ⟨N - 1, by omega⟩
    refine ⟨had, holds, ?_, fun p hp => a p (by omega), fun q _ => ⟨rfl, rfl⟩⟩
    show fX11_layAt_B2 _ _ _ _ _ _ _ _ = _
    unfold fX11_layAt_B2
    rw [show i = n by omega, if_pos (Int32.le_refl _)]
  | succ j ih =>
    intro i N had holds hi hN c a
    obtain ⟨N, rfl⟩ : ∃ M, N = M + 1 := ⟨N - 1, by omega⟩
    have ci := c i (by omega)
    obtain ⟨had', holds', g1, g2, g3⟩ := ih (i + 1) N (upd had (4 * e + i) (Int32.ofNat (k i))) (upd holds (4 * e + i) (Int32.ofNat (h i))) (by omega) (by omega) (fun p hp => by
      rw [upd_ne (by omega), upd_ne (by omega)]; exact c p hp) (fun p hp => by
      by_cases hpi : p = i
      · subst hpi; rw [upd_same, upd_same]; exact ⟨rfl, rfl⟩
      · rw [upd_ne (by omega), upd_ne (by omega)]; exact a p (by omega))
    refine ⟨had', holds', ?_, g2, fun q hq => ?_⟩
    · show fX11_layAt_B2 _ _ _ _ _ _ _ _ = _
      unfold fX11_layAt_B2
      rw [if_neg (fun q => absurd ((z_le (by omega) (by omega)).mp q) (by omega))]
      simp only [z_row, z_chk (show 4 * d + i < 56 by omega) (by omega), z_chk (show 4 * e + i < 56 by omega) (by omega), nh_let, z_ix (show 4 * d + i < 2147483648 by omega), z_ix (show 4 * e + i < 2147483648 by omega), ci.1, ci.2, z_succ]
      exact g1
    · rw [(g3 q hq).1, (g3 q hq).2, upd_ne (by omega), upd_ne (by omega)]
      exact ⟨rfl, rfl⟩
theorem mM_lay {n : Nat} {h k : Nat → Nat} {had holds : Nat → Int32} {d e F : Nat} (hn : n ≤ 4) (c : pM n h k had holds d) (hd : d < 14) (he : e < 14) (hde : d ≠ e) (hF : 5 ≤ F) : ∃ had' holds', fX11_layAt F (Int32.ofNat n) had holds (Int32.ofNat d) (Int32.ofNat e) = some (had', holds') ∧ pM n h k had' holds' e ∧ ∀ q, q < 4 * e ∨ 4 * e + 4 ≤ q → had' q = had q ∧ holds' q = holds q := by
  unfold fX11_layAt
  obtain ⟨had', holds', g1, g2, g3⟩ := mM_lay_loop (h := h) (k := k) hn hd he hde (fun x3_4 t_had_5 t_holds_6 => some (t_had_5, t_holds_6)) n 0 F had holds (by omega) (by omega) c (fun p hp => absurd hp (by omega))
  exact ⟨had', holds', g1, g2, g3⟩
