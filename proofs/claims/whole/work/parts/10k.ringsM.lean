/-! rings: the reference -/
def dgs (n : Nat) : Nat → Nat → List Nat
  | 0, _ => []
  | m + 1, r => (r / n ^ m % n) :: dgs n m r
theorem rws_dgs {n : Nat} (hn : n ≤ 4) : (List.range' 0 (n ^ n)).map (dgs n n) = rws n n := by
  rcases (show n = 0 ∨ n = 1 ∨ n = 2 ∨ n = 3 ∨ n = 4 by omega) with rfl | rfl | rfl | rfl | rfl <;> decide +kernel
theorem dgs_len (n : Nat) : ∀ m r, (dgs n m r).length = m
  | 0, _ => rfl
  | m + 1, r => by show (dgs n m r).length + 1 = _; rw [dgs_len n m r]
theorem dgs_at (n : Nat) : ∀ m r p, p < m → (dgs n m r).getD p 0 = r / n ^ (m - 1 - p) % n
  | 0, _, p, h => absurd h (by omega)
  | m + 1, r, 0, _ => by show r / n ^ m % n = _; rw [show m + 1 - 1 - 0 = m by omega]
  | m + 1, r, p + 1, h => by
    show (dgs n m r).getD p 0 = _
    rw [dgs_at n m r p (by omega), show m + 1 - 1 - (p + 1) = m - 1 - p by omega]
theorem z_divs : ∀ n : Nat, n < 5 → ∀ x : Nat, x < 257 → n ≠ 0 → Int32.ofNat x / Int32.ofNat n = Int32.ofNat (x / n) ∧ Int32.ofNat x - Int32.ofNat (x / n) * Int32.ofNat n = Int32.ofNat (x % n) := by decide +kernel
theorem mM_all {n : Nat} (hn : n ≤ 4) (kk : Int32 → Int32 → Option (Int32 × (Nat → Int32) × (Nat → Int32))) : ∀ (j p N a : Nat), p + j = n → j < N → fX11_findRings_L12 (Int32.ofNat n) kk N (Int32.ofNat a) (Int32.ofNat p) = kk (Int32.ofNat (a * n ^ j)) (Int32.ofNat n) := by
  intro j
  induction j with
  | zero =>
    intro p N a hp hN
    obtain ⟨N, rfl⟩ : ∃ x, N = x + 1 := ⟨N - 1, by omega⟩
    show fX11_findRings_B12 _ _ _ _ _ = _
    unfold fX11_findRings_B12
    rw [show p = n by omega, if_pos (Int32.le_refl _), Nat.pow_zero, Nat.mul_one]
  | succ j ih =>
    intro p N a hp hN
    obtain ⟨N, rfl⟩ : ∃ x, N = x + 1 := ⟨N - 1, by omega⟩
    show fX11_findRings_B12 _ _ _ _ _ = _
    unfold fX11_findRings_B12
    rw [if_neg (fun z => absurd ((z_le (by omega) (by omega)).mp z) (by omega))]
    simp only [nh_let, z_mul, z_succ]
    rw [ih (p + 1) N (a * n) (by omega) (by omega), Nat.pow_succ, Nat.mul_assoc, Nat.mul_comm n]
theorem z_dec {j : Nat} : Int32.ofNat (j + 1) + (-1) = Int32.ofNat j := by rw [← z_succ, Int32.add_assoc]; simp
/-- the row's number, told in figures -/
theorem mM_digits {n : Nat} (hn : n ≤ 4) {r : Nat} (hr : r < 257) (kk : Int32 → Int32 → (Nat → Int32) → Option (Int32 × (Nat → Int32) × (Nat → Int32))) : ∀ (j N : Nat) (fr : Nat → Int32), j ≤ n → j < N → (∀ q, j ≤ q → q < n → fr q = Int32.ofNat (r / n ^ (n - 1 - q) % n)) → ∃ x fr', fX11_findRings_L51 (Int32.ofNat n) kk N (Int32.ofNat (r / n ^ (n - j))) (Int32.ofNat j + (-1)) fr = kk x (-1) fr' ∧ ∀ q, q < n → fr' q = Int32.ofNat (r / n ^ (n - 1 - q) % n) := by
  intro j
  induction j with
  | zero =>
    intro N fr hj hN hf
    obtain ⟨N, rfl⟩ : ∃ x, N = x + 1 := ⟨N - 1, by omega⟩
    refine ⟨Int32.ofNat (r / n ^ (n - 0)), fr, ?_, fun q hq => hf q (by omega) hq⟩
    show fX11_findRings_B51 _ _ _ _ _ _ = _
    unfold fX11_findRings_B51
    rw [if_pos (show Int32.ofNat 0 + -1 < 0 by decide)]
    rfl
  | succ j ih =>
    intro N fr hj hN hf
    obtain ⟨N, rfl⟩ : ∃ x, N = x + 1 := ⟨N - 1, by omega⟩
    have hx : r / n ^ (n - (j + 1)) < 257 := Nat.lt_of_le_of_lt (Nat.div_le_self _ _) hr
    obtain ⟨d1, d2⟩ := z_divs n (by omega) _ hx (by omega)
    have e : r / n ^ (n - (j + 1)) / n = r / n ^ (n - j) := by
      rw [Nat.div_div_eq_div_mul, ← Nat.pow_succ, show (n - (j + 1)).succ = n - j by omega]
    obtain ⟨x, fr', g1, g2⟩ := ih N (upd fr j (Int32.ofNat (r / n ^ (n - (j + 1)) % n))) (by omega) (by omega) (fun q h1 h2 => by
      by_cases hq : q = j
      · subst hq; rw [upd_same, show n - (q + 1) = n - 1 - q by omega]
      · rw [upd_ne hq]; exact hf q (by omega) h2)
    refine ⟨x, fr', ?_, g2⟩
    rw [← g1]
    show fX11_findRings_B51 _ _ _ _ _ _ = _
    unfold fX11_findRings_B51
    have hz : nh_chk (decide (¬ Int32.ofNat n = 0)) = fun (x : Option (Int32 × (Nat → Int32) × (Nat → Int32))) => x := by
      funext x
      rw [decide_eq_true (show ¬ Int32.ofNat n = 0 from fun z => absurd ((z_eq (a := n) (b := 0) (by omega) (by omega)).mp z) (by omega))]; rfl
    rw [z_dec, if_neg (z_nn (by omega)), hz]
    simp only [nh_let]
    rw [z_chk (show j < 4 by omega) (by omega), z_ix (by omega), d1, d2, e]
theorem mM_worth {n : Nat} (hn : n ≤ 4) {w : Nat → Nat} {wo : Nat → Int32} (hw : wOk n w wo) {p s : Nat} (hp : p < n) (hs : s ≤ 6) : fX11_worthOf wo (Int32.ofNat p) (Int32.ofNat s) = some (Int32.ofNat (if s = 6 then 0 else w (6 * p + s))) := by
  unfold fX11_worthOf
  by_cases h6 : s = 6
  · rw [if_pos ((z_eq6 hs).mpr h6), if_pos h6]; rfl
  · rw [if_neg (fun z => h6 ((z_eq6 hs).mp z)), if_neg h6, show (6 : Int32) = Int32.ofNat 6 from rfl, z_mul, z_add, z_chk (show 6 * p + s < 24 by omega) (by omega), z_ix (by omega), (hw p s hp (by omega)).1]
/-- by how much more: the chain, or none -/
def moreI (o : Option Nat) : Int32 := match o with
  | none => -9
  | some g => Int32.ofNat g
theorem mM_more_loop {n : Nat} {h k w : Nat → Nat} {had holds wo : Nat → Int32} (ok : pOk n h k) (c : pM n h k had holds 0) (hw : wOk n w wo) {fr : Nat → Int32} : ∀ (l : List Nat) (p N t g : Nat), p + l.length = n → l.length < N → t < 16 → g ≤ 9 * p → (∀ i, i < l.length → fr (p + i) = Int32.ofNat (l.getD i 0) ∧ l.getD i 0 < n) → fX11_moreBy_L6 (Int32.ofNat n) fr had holds wo (fun x1_4 x2_5 x3_6 => some x1_4) N (Int32.ofNat g) (Int32.ofNat t) (Int32.ofNat p) = some (moreI (chn h k w l p t g)) := by
  have hn := ok.1
  intro l
  induction l with
  | nil =>
    intro p N t g hp hN ht hg hf
    obtain ⟨N, rfl⟩ : ∃ x, N = x + 1 := ⟨N - 1, by simp at hN; omega⟩
    show fX11_moreBy_B6 _ _ _ _ _ _ _ _ _ _ = _
    unfold fX11_moreBy_B6
    rw [show p = n by simpa using hp, if_pos (Int32.le_refl _)]
    rfl
  | cons q l ih =>
    intro p N t g hp hN ht hg hf
    simp only [List.length_cons] at hp hN hf
    obtain ⟨N, rfl⟩ : ∃ x, N = x + 1 := ⟨N - 1, by omega⟩
    have h0 := hf 0 (by omega)
    simp only [Nat.add_zero, List.getD_cons_zero] at h0
    have hpn : p < n := by omega
    have hqn : q < n := h0.2
    have vp := (ok.2 p hpn)
    have vq := (ok.2 q hqn)
    have cp := c p hpn
    have cq := c q hqn
    rw [show 4 * 0 + p = p by omega] at cp
    rw [show 4 * 0 + q = q by omega] at cq
    have hf' : ∀ i, i < l.length → fr (p + 1 + i) = Int32.ofNat (l.getD i 0) ∧ l.getD i 0 < n := fun i hi => by
      have := hf (i + 1) (by omega)
      rw [List.getD_cons_succ, show p + (i + 1) = p + 1 + i by omega] at this
      exact this
    show fX11_moreBy_B6 _ _ _ _ _ _ _ _ _ _ = some (moreI (if okR h k w p q t = true then chn h k w l (p + 1) (t ||| 2 ^ q) (gnR h w p q g) else none))
    unfold fX11_moreBy_B6
    rw [if_neg (fun z => absurd ((z_le (by omega) (by omega)).mp z) (by omega)), z_chk (show p < 4 by omega) (by omega), z_ix (by omega), h0.1]
    simp only [nh_let]
    rw [mM_has t (by omega) q (by omega)]
    cases htq : t.testBit q with
    | true =>
      rw [if_neg (show ¬ b01 true = 0 by decide), if_neg (by unfold okR; rw [htq]; simp)]
      rfl
    | false =>
      rw [if_pos (show b01 false = 0 from rfl), z_or t (by omega) q (by omega)]
      by_cases e : q = p
      · rw [if_pos (by rw [e]), z_succ, ih (p + 1) N (t ||| 2 ^ q) g (by omega) (by omega) (or_lt16 _ ht _ (by omega)) (by omega) hf', if_pos (by unfold okR; rw [htq, decide_eq_true e]; rfl)]
        unfold gnR; rw [if_pos e]
      · rw [if_neg (fun z => e ((z_eq (by omega) (by omega)).mp z))]
        have hno : ∀ b : Bool, okR h k w p q t = b → okR h k w p q t = b := fun _ z => z
        have eok : okR h k w p q t = (decide (h p < 6) && decide (h q < 6) && !(k p).testBit (h q) && decide (w (6 * p + h p) < w (6 * p + h q))) := by
          unfold okR; rw [htq, decide_eq_false e]; rfl
        rw [z_chk (show p < 56 by omega) (by omega), z_chk (show q < 56 by omega) (by omega), z_ix (by omega), cp.1, cq.1]
        by_cases a : h p = 6
        · rw [if_pos ((z_eq6 vp.1).mpr a), eok, decide_eq_false (show ¬ h p < 6 by omega)]; rfl
        · rw [if_neg (fun z => a ((z_eq6 vp.1).mp z))]
          by_cases b : h q = 6
          · rw [if_pos ((z_eq6 vq.1).mpr b), eok, decide_eq_false (show ¬ h q < 6 by omega), Bool.and_false]; rfl
          · rw [if_neg (fun z => b ((z_eq6 vq.1).mp z)), z_chk (show p < 56 by omega) (by omega), cp.2, mM_has _ vp.2.1 _ (by omega), eok, decide_eq_true (show h p < 6 by omega), decide_eq_true (show h q < 6 by omega)]
            cases hk : (k p).testBit (h q) with
            | true => rw [if_neg (show ¬ b01 true = 0 by decide)]; rfl
            | false =>
              rw [if_pos (show b01 false = 0 from rfl), mM_worth hn hw hpn vq.1, mM_worth hn hw hpn vp.1, if_neg b, if_neg a]
              simp only [nh_b1]
              have b1 := (hw p (h q) hpn (by omega)).2
              have b2 := (hw p (h p) hpn (by omega)).2
              by_cases lt : w (6 * p + h p) < w (6 * p + h q)
              · rw [if_pos ((z_lt (by omega) (by omega)).mpr lt), decide_eq_true lt, z_sub (by omega), z_add, z_succ, ih (p + 1) N (t ||| 2 ^ q) _ (by omega) (by omega) (or_lt16 _ ht _ (by omega)) (by omega) hf', if_pos (by rfl)]
                unfold gnR; rw [if_neg e]
              · rw [if_neg (fun z => lt ((z_lt (by omega) (by omega)).mp z)), decide_eq_false lt]; rfl
theorem mM_movers {n : Nat} (hn : n ≤ 4) {fr : Nat → Int32} : ∀ (l : List Nat) (p N a : Nat), p + l.length = n → l.length < N → a ≤ p → (∀ i, i < l.length → fr (p + i) = Int32.ofNat (l.getD i 0) ∧ l.getD i 0 < n) → fX11_movers_L4 (Int32.ofNat n) fr (fun x1_3 x2_4 => some x1_3) N (Int32.ofNat a) (Int32.ofNat p) = some (Int32.ofNat (a + mvR l p)) := by
  intro l
  induction l with
  | nil =>
    intro p N a hp hN ha hf
    obtain ⟨N, rfl⟩ : ∃ x, N = x + 1 := ⟨N - 1, by simp at hN; omega⟩
    show fX11_movers_B4 _ _ _ _ _ _ = _
    unfold fX11_movers_B4
    rw [show p = n by simpa using hp, if_pos (Int32.le_refl _)]; rfl
  | cons q l ih =>
    intro p N a hp hN ha hf
    simp only [List.length_cons] at hp hN hf
    obtain ⟨N, rfl⟩ : ∃ x, N = x + 1 := ⟨N - 1, by omega⟩
    have h0 := hf 0 (by omega)
    simp only [Nat.add_zero, List.getD_cons_zero] at h0
    have hf' : ∀ i, i < l.length → fr (p + 1 + i) = Int32.ofNat (l.getD i 0) ∧ l.getD i 0 < n := fun i hi => by
      have := hf (i + 1) (by omega)
      rw [List.getD_cons_succ, show p + (i + 1) = p + 1 + i by omega] at this
      exact this
    show fX11_movers_B4 _ _ _ _ _ _ = some (Int32.ofNat (a + ((if q = p then 0 else 1) + mvR l (p + 1))))
    unfold fX11_movers_B4
    rw [if_neg (fun z => absurd ((z_le (by omega) (by omega)).mp z) (by omega)), z_chk (show p < 4 by omega) (by omega), z_ix (by omega), h0.1]
    simp only [nh_let, z_succ]
    by_cases e : q = p
    · rw [if_pos (by rw [e]), if_pos e, Nat.zero_add, Int32.add_zero]
      exact ih (p + 1) N a (by omega) (by omega) (by omega) hf'
    · rw [if_neg (fun z => e ((z_eq (by omega) (by omega)).mp z)), if_neg e, ← Nat.add_assoc]
      exact ih (p + 1) N (a + 1) (by omega) (by omega) (by omega) hf'
theorem mM_keepbest {n : Nat} (hn : n ≤ 4) {fr : Nat → Int32} (kk : Int32 → (Nat → Int32) → Option (Int32 × (Nat → Int32) × (Nat → Int32))) : ∀ (j p N : Nat) (be : Nat → Int32), p + j = n → j < N → (∀ q, q < p → be q = fr q) → ∃ be', (∀ q, q < n → be' q = fr q) ∧ fX11_findRings_L138 (Int32.ofNat n) fr kk N (Int32.ofNat p) be = kk (Int32.ofNat n) be' := by
  intro j
  induction j with
  | zero =>
    intro p N be hp hN hb
    obtain ⟨N, rfl⟩ : ∃ x, N = x + 1 := ⟨N - 1, by omega⟩
    refine ⟨be, fun q hq => hb q (by omega), ?_⟩
    show fX11_findRings_B138 _ _ _ _ _ _ = _
    unfold fX11_findRings_B138
    rw [show p = n by omega, if_pos (Int32.le_refl _)]
  | succ j ih =>
    intro p N be hp hN hb
    obtain ⟨N, rfl⟩ : ∃ x, N = x + 1 := ⟨N - 1, by omega⟩
    obtain ⟨be', e1, e2⟩ := ih (p + 1) N (upd be p (fr p)) (by omega) (by omega) (fun q hq => by
      by_cases e : q = p
      · subst e; rw [upd_same]
      · rw [upd_ne e]; exact hb q (by omega))
    refine ⟨be', e1, ?_⟩
    rw [← e2]
    show fX11_findRings_B138 _ _ _ _ _ _ = _
    unfold fX11_findRings_B138
    rw [if_neg (fun z => absurd ((z_le (by omega) (by omega)).mp z) (by omega)), z_chk (show p < 4 by omega) (by omega), z_chk (show p < 4 by omega) (by omega), z_ix (by omega)]
    simp only [nh_let, z_succ]
theorem z_ne9 {g : Nat} (hg : g < 2147483648) : ¬ Int32.ofNat g = -9 := fun q => by
  have := congrArg Int32.toInt q
  rw [z_toInt hg] at this
  exact absurd this (by rw [show (-9 : Int32).toInt = -9 from rfl]; omega)
theorem z_n9lt {g : Nat} (hg : g < 2147483648) : ¬ Int32.ofNat g < -9 := fun q => by
  rw [Int32.lt_iff_toInt_lt, z_toInt hg, show (-9 : Int32).toInt = -9 from rfl] at q; omega
theorem chn_le {n : Nat} {h k w : Nat → Nat} (hw : ∀ p s, p < n → s < 6 → w (6 * p + s) ≤ 9) : ∀ (l : List Nat) (p t g : Nat), p + l.length = n → ∀ g', chn h k w l p t g = some g' → g' ≤ g + 9 * l.length
  | [], p, t, g, _, g', e => by cases e; exact Nat.le_refl _
  | q :: l, p, t, g, hp, g', e => by
    simp only [List.length_cons] at hp ⊢
    have e' : (if okR h k w p q t = true then chn h k w l (p + 1) (t ||| 2 ^ q) (gnR h w p q g) else none) = some g' := e
    by_cases ho : okR h k w p q t = true
    · rw [if_pos ho] at e'
      have := chn_le hw l (p + 1) _ _ (by omega) g' e'
      have hg : gnR h w p q g ≤ g + 9 := by
        unfold gnR
        by_cases hq : q = p
        · rw [if_pos hq]; omega
        · rw [if_neg hq]
          unfold okR at ho
          rw [decide_eq_false hq, Bool.false_or] at ho
          simp only [Bool.and_eq_true, decide_eq_true_eq] at ho
          have := hw p (h q) (by omega) (by omega)
          omega
      omega
    · rw [if_neg ho] at e'; cases e'
theorem mM_rings_loop {n : Nat} {h k w : Nat → Nat} {had holds wo : Nat → Int32} (ok : pOk n h k) (c : pM n h k had holds 0) (hw : wOk n w wo) {F : Nat} (hF : 300 ≤ F) : ∀ (j r N : Nat) (acc : Option (Nat × Nat × List Nat)) (x1 bm : Int32) (be fr : Nat → Int32), r + j = n ^ n → n ^ n ≤ 256 → j < N → rA n acc bm x1 be → ∃ bm' x1' be' fr', fX11_findRings_L35 (Int32.ofNat n) had holds wo (Int32.ofNat (n ^ n)) F (fun x1_13 x3_14 t_bestMore_15 t_best_16 t_from_17 => some (t_bestMore_15, t_best_16, t_from_17)) N x1 (Int32.ofNat r) bm be fr = some (bm', be', fr') ∧ rA n ((List.range' r j).foldl (fun acc r => stepR h k w [] 0 0 0 acc (dgs n n r)) acc) bm' x1' be' := by
  have hn := ok.1
  intro j
  induction j with
  | zero =>
    intro r N acc x1 bm be fr hr hb hN ha
    obtain ⟨N, rfl⟩ : ∃ x, N = x + 1 := ⟨N - 1, by omega⟩
    refine ⟨bm, x1, be, fr, ?_, ha⟩
    show fX11_findRings_B35 _ _ _ _ _ _ _ _ _ _ _ _ _ = _
    unfold fX11_findRings_B35
    rw [show r = n ^ n by omega, if_pos (Int32.le_refl _)]
  | succ j ih =>
    intro r N acc x1 bm be fr hr hb hN ha
    obtain ⟨N, rfl⟩ : ∃ x, N = x + 1 := ⟨N - 1, by omega⟩
    obtain ⟨K, hK⟩ : ∃ K : Int32 → Int32 → (Nat → Int32) → Option (Int32 × (Nat → Int32) × (Nat → Int32)), K = (fun x4_42 x5_43 t_from_44 => nh_b1 (fX11_moreBy F (Int32.ofNat n) t_from_44 had holds wo) (fun r_52 => (if bm < r_52 then fX11_findRings_J124 (Int32.ofNat n) F (fX11_findRings_L35 (Int32.ofNat n) had holds wo (Int32.ofNat (n ^ n)) F (fun x1_13 x3_14 t_bestMore_15 t_best_16 t_from_17 => some (t_bestMore_15, t_best_16, t_from_17)) N) x1 (Int32.ofNat r) x4_42 r_52 bm be t_from_44
 else (if r_52 = bm then (if r_52 = (-9) then nh_let (α := Int32) (Int32.ofNat r + 1) (fun x3_58 => (fX11_findRings_L35 (Int32.ofNat n) had holds wo (Int32.ofNat (n ^ n)) F (fun x1_13 x3_14 t_bestMore_15 t_best_16 t_from_17 => some (t_bestMore_15, t_best_16, t_from_17)) N) x1 x3_58 bm be t_from_44)
 else nh_b1 (fX11_movers F (Int32.ofNat n) t_from_44) (fun r_59 => (if x1 ≤ r_59 then nh_let (α := Int32) (Int32.ofNat r + 1) (fun x3_62 => (fX11_findRings_L35 (Int32.ofNat n) had holds wo (Int32.ofNat (n ^ n)) F (fun x1_13 x3_14 t_bestMore_15 t_best_16 t_from_17 => some (t_bestMore_15, t_best_16, t_from_17)) N) x1 x3_62 bm be t_from_44)
 else fX11_findRings_J124 (Int32.ofNat n) F (fX11_findRings_L35 (Int32.ofNat n) had holds wo (Int32.ofNat (n ^ n)) F (fun x1_13 x3_14 t_bestMore_15 t_best_16 t_from_17 => some (t_bestMore_15, t_best_16, t_from_17)) N) x1 (Int32.ofNat r) x4_42 r_52 bm be t_from_44)))
 else nh_let (α := Int32) (Int32.ofNat r + 1) (fun x3_56 => (fX11_findRings_L35 (Int32.ofNat n) had holds wo (Int32.ofNat (n ^ n)) F (fun x1_13 x3_14 t_bestMore_15 t_best_16 t_from_17 => some (t_bestMore_15, t_best_16, t_from_17)) N) x1 x3_56 bm be t_from_44))))) := ⟨_, rfl⟩
    obtain ⟨x, fr', d1, d2⟩ := mM_digits hn (show r < 257 by omega) K n F fr (Nat.le_refl _) (by omega) (fun q h1 h2 => by omega)
    rw [Nat.sub_self, Nat.pow_zero, Nat.div_one] at d1
    have hl : ∀ i, i < (dgs n n r).length → fr' (0 + i) = Int32.ofNat ((dgs n n r).getD i 0) ∧ (dgs n n r).getD i 0 < n := fun i hi => by
      rw [dgs_len] at hi
      rw [Nat.zero_add, d2 i hi, dgs_at n n r i hi]
      exact ⟨rfl, Nat.mod_lt _ (by omega)⟩
    have hmore : fX11_moreBy F (Int32.ofNat n) fr' had holds wo = some (moreI (chn h k w (dgs n n r) 0 0 0)) := by
      unfold fX11_moreBy
      exact mM_more_loop ok c hw (dgs n n r) 0 F 0 0 (by rw [dgs_len]; omega) (by rw [dgs_len]; omega) (by omega) (by omega) hl
    have hmov : fX11_movers F (Int32.ofNat n) fr' = some (Int32.ofNat (mvR (dgs n n r) 0)) := by
      unfold fX11_movers
      have := mM_movers hn (dgs n n r) 0 F 0 (by rw [dgs_len]; omega) (by rw [dgs_len]; omega) (Nat.le_refl _) hl
      rw [Nat.zero_add] at this
      exact this
    have hmv := mvR_le (dgs n n r) 0
    rw [dgs_len] at hmv
    rw [List.range'_succ, List.foldl_cons]
    have hB : fX11_findRings_L35 (Int32.ofNat n) had holds wo (Int32.ofNat (n ^ n)) F (fun x1_13 x3_14 t_bestMore_15 t_best_16 t_from_17 => some (t_bestMore_15, t_best_16, t_from_17)) (N + 1) x1 (Int32.ofNat r) bm be fr = K x (-1) fr' := by
      subst hK
      show fX11_findRings_B35 _ _ _ _ _ _ _ _ _ _ _ _ _ = _
      unfold fX11_findRings_B35
      rw [if_neg (fun z => absurd ((z_le (by omega) (by omega)).mp z) (by omega))]
      simp only [nh_let]
      rw [Int32.sub_eq_add_neg]
      exact d1
    rw [hB, hK]
    dsimp only
    rw [hmore]
    simp only [nh_b1, nh_let, z_succ]
    -- a new best one
    have hnew : ∀ g, g ≤ 100 → ∃ bm' x1' be' fr'', fX11_findRings_J124 (Int32.ofNat n) F (fX11_findRings_L35 (Int32.ofNat n) had holds wo (Int32.ofNat (n ^ n)) F (fun x1_13 x3_14 t_bestMore_15 t_best_16 t_from_17 => some (t_bestMore_15, t_best_16, t_from_17)) N) x1 (Int32.ofNat r) x (Int32.ofNat g) bm be fr' = some (bm', be', fr'') ∧ rA n ((List.range' (r + 1) j).foldl (fun acc r => stepR h k w [] 0 0 0 acc (dgs n n r)) (some (g, mvR (dgs n n r) 0, dgs n n r))) bm' x1' be' := by
      intro g hg
      obtain ⟨be1, b1, b2⟩ := mM_keepbest (fr := fr') hn (fun x6_29 t_best_30 => nh_let (α := Int32) (Int32.ofNat r + 1) (fun x3_36 => (fX11_findRings_L35 (Int32.ofNat n) had holds wo (Int32.ofNat (n ^ n)) F (fun x1_13 x3_14 t_bestMore_15 t_best_16 t_from_17 => some (t_bestMore_15, t_best_16, t_from_17)) N) (Int32.ofNat (mvR (dgs n n r) 0)) x3_36 (Int32.ofNat g) t_best_30 fr')) n 0 F be (by omega) (by omega) (fun q hq => absurd hq (by omega))
      obtain ⟨bm', x1', be', fr'', e1, e2⟩ := ih (r + 1) N (some (g, mvR (dgs n n r) 0, dgs n n r)) (Int32.ofNat (mvR (dgs n n r) 0)) (Int32.ofNat g) be1 fr' (by omega) hb (by omega) ⟨rfl, rfl, hg, by show mvR _ _ ≤ 100; omega, fun p hp => by
        rw [b1 p hp]
        have := (hl p (by rw [dgs_len]; exact hp)).1
        rw [Nat.zero_add] at this
        exact this⟩
      refine ⟨bm', x1', be', fr'', ?_, e2⟩
      unfold fX11_findRings_J124
      rw [hmov]
      simp only [nh_b1]
      refine Eq.trans b2 ?_
      simp only [nh_let, z_succ]
      exact e1
    have hsame : ∃ bm' x1' be' fr'', fX11_findRings_L35 (Int32.ofNat n) had holds wo (Int32.ofNat (n ^ n)) F (fun x1_13 x3_14 t_bestMore_15 t_best_16 t_from_17 => some (t_bestMore_15, t_best_16, t_from_17)) N x1 (Int32.ofNat (r + 1)) bm be fr' = some (bm', be', fr'') ∧ rA n ((List.range' (r + 1) j).foldl (fun acc r => stepR h k w [] 0 0 0 acc (dgs n n r)) acc) bm' x1' be' := ih (r + 1) N acc x1 bm be fr' (by omega) hb (by omega) ha
    have estep : stepR h k w [] 0 0 0 acc (dgs n n r) = match chn h k w (dgs n n r) 0 0 0 with | none => acc | some g' => cmpA acc g' (mvR (dgs n n r) 0) (dgs n n r) := rfl
    rw [estep]
    cases hch : chn h k w (dgs n n r) 0 0 0 with
    | none =>
      show ∃ bm' x1' be' fr'', (if bm < -9 then _ else (if (-9 : Int32) = bm then (if (-9 : Int32) = -9 then _ else _) else _)) = _ ∧ _
      cases acc with
      | none =>
        obtain ⟨rfl, rfl⟩ := id ha
        rw [if_neg (by decide), if_pos rfl, if_pos rfl]
        exact hsame
      | some a =>
        obtain ⟨e1, e2, e3, e4, e5⟩ := id ha
        rw [if_neg (by rw [e1]; exact z_n9lt (by omega)), if_neg (by rw [e1]; exact fun z => z_ne9 (by omega) z.symm)]
        exact hsame
    | some g =>
      have hg : g ≤ 100 := by
        have := chn_le (n := n) (fun p s hp hs => (hw p s hp hs).2) (dgs n n r) 0 0 0 (by rw [dgs_len]; omega) g hch
        rw [dgs_len] at this
        omega
      show ∃ bm' x1' be' fr'', (if bm < Int32.ofNat g then _ else (if Int32.ofNat g = bm then (if Int32.ofNat g = -9 then _ else _) else _)) = _ ∧ _
      cases acc with
      | none =>
        obtain ⟨rfl, rfl⟩ := id ha
        rw [if_pos (z_m9 (by omega))]
        exact hnew g hg
      | some a =>
        obtain ⟨e1, e2, e3, e4, e5⟩ := id ha
        show ∃ bm' x1' be' fr'', _ ∧ rA n (List.foldl _ (if a.1 < g ∨ (g = a.1 ∧ mvR (dgs n n r) 0 < a.2.1) then some (g, mvR (dgs n n r) 0, dgs n n r) else some a) _) bm' x1' be'
        by_cases g1 : a.1 < g
        · rw [if_pos (by rw [e1]; exact (z_lt (by omega) (by omega)).mpr g1), if_pos (Or.inl g1)]
          exact hnew g hg
        · rw [if_neg (by rw [e1]; exact fun z => g1 ((z_lt (by omega) (by omega)).mp z))]
          by_cases g2 : g = a.1
          · rw [if_pos (by rw [e1, g2]), if_neg (z_ne9 (by omega)), hmov]
            simp only []
            by_cases g3 : mvR (dgs n n r) 0 < a.2.1
            · rw [if_neg (by rw [e2]; exact fun z => absurd ((z_le (by omega) (by omega)).mp z) (by omega)), if_pos (Or.inr ⟨g2, g3⟩)]
              exact hnew g hg
            · rw [if_pos (by rw [e2]; exact (z_le (by omega) (by omega)).mpr (by omega)), if_neg (by omega)]
              exact hsame
          · rw [if_neg (by rw [e1]; exact fun z => g2 ((z_eq (by omega) (by omega)).mp z)), if_neg (by omega)]
            exact hsame
/-- the best rings, as both find them -/
def ringsR (n : Nat) (h k w : Nat → Nat) : Option (Nat × Nat × List Nat) := (rws n n).foldl (stepR h k w [] 0 0 0) none
theorem mM_rings {n : Nat} {h k w : Nat → Nat} {had holds wo : Nat → Int32} (ok : pOk n h k) (c : pM n h k had holds 0) (hw : wOk n w wo) {F : Nat} (hF : 300 ≤ F) (bm : Int32) (be fr : Nat → Int32) : ∃ bm' x1' be' fr', fX11_findRings F (Int32.ofNat n) bm be fr had holds wo = some (bm', be', fr') ∧ rA n (ringsR n h k w) bm' x1' be' := by
  have hn := ok.1
  have hb : n ^ n ≤ 256 := by rcases (show n = 0 ∨ n = 1 ∨ n = 2 ∨ n = 3 ∨ n = 4 by omega) with rfl | rfl | rfl | rfl | rfl <;> decide
  obtain ⟨bm', x1', be', fr', e1, e2⟩ := mM_rings_loop ok c hw hF (n ^ n) 0 F none 0 (-9) be fr (by omega) hb (by omega) ⟨rfl, rfl⟩
  refine ⟨bm', x1', be', fr', ?_, ?_⟩
  · unfold fX11_findRings
    have e3 := mM_all hn (fun x2_3 x3_4 => fX11_findRings_L35 (Int32.ofNat n) had holds wo x2_3 F (fun x1_13 x3_14 t_bestMore_15 t_best_16 t_from_17 => some (t_bestMore_15, t_best_16, t_from_17)) F 0 0 (-9) be fr) n 0 F 1 (by omega) (by omega)
    rw [Nat.one_mul] at e3
    refine Eq.trans e3 ?_
    exact e1
  · unfold ringsR
    rw [← rws_dgs hn, List.foldl_map]
    exact e2
theorem aC_rings {n : Nat} {h k w : Nat → Nat} {hd kn wo : Nat → Int32} (ok : pOk n h k) (c : pC n h k hd kn) (hw : wOk n w wo) {F : Nat} (hF : 6 ≤ F) (bg bt : Int32) (bf fr : Nat → Int32) : ∃ bg' bt' bf' fr', fX3_choose F bg bt bf fr (Int32.ofNat n) hd kn wo = some (bg', bt', bf', fr') ∧ rA n (ringsR n h k w) bg' bt' bf' := by
  have hn := ok.1
  obtain ⟨bg', bt', bf', fr', e1, e2, -⟩ := aC_give ok c hw hF n 20 0 0 0 [] none (-9) 0 bf fr (by omega) (by omega) (by omega) (by omega) rfl (fun i hi => absurd hi (by omega)) ⟨rfl, rfl⟩
  refine ⟨bg', bt', bf', fr', ?_, e2⟩
  unfold fX3_choose
  rw [show fX3_give F 20 (-9) 0 bf fr (Int32.ofNat n) hd kn wo 0 0 0 = some (bg', bt', bf', fr') from e1]
  rfl
/-- somebody's row counts: all keep what they have -/
theorem cmpA_some (acc : Option (Nat × Nat × List Nat)) (g m : Nat) (l : List Nat) : cmpA acc g m l ≠ none := by
  cases acc with
  | none => intro e; cases e
  | some a =>
    show (if a.1 < g ∨ (g = a.1 ∧ m < a.2.1) then some (g, m, l) else some a) ≠ none
    split <;> simp
theorem stepR_keep {h k w : Nat → Nat} {acc : Option (Nat × Nat × List Nat)} {l : List Nat} (ha : acc ≠ none) : stepR h k w [] 0 0 0 acc l ≠ none := by
  unfold stepR
  split
  · exact ha
  · exact cmpA_some _ _ _ _
theorem fold_some {h k w : Nat → Nat} : ∀ (ls : List (List Nat)) (acc : Option (Nat × Nat × List Nat)), (acc ≠ none ∨ ∃ l ∈ ls, chn h k w l 0 0 0 ≠ none) → ls.foldl (stepR h k w [] 0 0 0) acc ≠ none
  | [], acc, hh => by
    rcases hh with h | ⟨l, hl, -⟩
    · exact h
    · cases hl
  | x :: ls, acc, hh => by
    rw [List.foldl_cons]
    refine fold_some ls _ ?_
    rcases hh with h | ⟨l, hl, hc⟩
    · exact Or.inl (stepR_keep h)
    · rcases List.mem_cons.mp hl with rfl | hl
      · left
        unfold stepR
        split
        · rename_i e; exact absurd e hc
        · exact cmpA_some _ _ _ _
      · exact Or.inr ⟨l, hl, hc⟩
theorem rings_some {n : Nat} (hn : n ≤ 4) (h k w : Nat → Nat) : ringsR n h k w ≠ none := by
  unfold ringsR
  refine fold_some _ _ (Or.inr ?_)
  rcases (show n = 0 ∨ n = 1 ∨ n = 2 ∨ n = 3 ∨ n = 4 by omega) with rfl | rfl | rfl | rfl | rfl
  · exact ⟨[], by decide, by intro e; cases e⟩
  · exact ⟨[0], by decide, by intro e; cases e⟩
  · exact ⟨[0, 1], by decide, by intro e; cases e⟩
  · exact ⟨[0, 1, 2], by decide, by intro e; cases e⟩
  · exact ⟨[0, 1, 2, 3], by decide +kernel, by intro e; cases e⟩
