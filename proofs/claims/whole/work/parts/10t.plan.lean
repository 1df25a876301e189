/-! fewest, plan: what is looked for; the class's search -/
def wsB (wc : Nat → Int32) (h : Nat → Nat) : Nat → Nat → Bool
  | 0, _ => true
  | j + 1, p => (decide (wc p = -9) || decide (wc p = cH (h p))) && wsB wc h j (p + 1)
theorem aC_met_loop {n : Nat} (hn : n ≤ 4) {h : Nat → Nat} {wc hd : Nat → Int32} (hh : ∀ p, p < n → hd p = cH (h p)) : ∀ (j p N : Nat), p + j = n → j < N → fX9_met_L2 wc (Int32.ofNat n) hd (fun x2_2 => some 1) N (Int32.ofNat p) = some (b01 (wsB wc h j p)) := by
  intro j
  induction j with
  | zero =>
    intro p N hp hN
    obtain ⟨N, rfl⟩ : ∃ M, N = M + 1 := ⟨N - 1, by omega⟩
    show fX9_met_B2 _ _ _ _ _ _ = _
    unfold fX9_met_B2
    rw [show p = n by omega, if_pos (Int32.le_refl _)]; rfl
  | succ j ih =>
    intro p N hp hN
    obtain ⟨N, rfl⟩ : ∃ M, N = M + 1 := ⟨N - 1, by omega⟩
    show fX9_met_B2 _ _ _ _ _ _ = some (b01 ((decide (wc p = -9) || decide (wc p = cH (h p))) && wsB wc h j (p + 1)))
    unfold fX9_met_B2
    rw [if_neg (fun q => absurd ((z_le (by omega) (by omega)).mp q) (by omega))]
    simp only [nh_let, z_succ, z_chk (show p < 4 by omega) (show 4 < 2147483648 by omega), z_ix (show p < 2147483648 by omega), hh p (by omega), ih (p + 1) N (by omega) (by omega)]
    by_cases g : wc p = -9
    · rw [if_pos g, decide_eq_true g]; rfl
    · rw [if_neg g, decide_eq_false g]
      by_cases e : wc p = cH (h p)
      · rw [if_pos e, decide_eq_true e]; rfl
      · rw [if_neg e, decide_eq_false e]; rfl
theorem aC_met {n F : Nat} (hn : n ≤ 4) (hF : 6 ≤ F) {h : Nat → Nat} {wc hd : Nat → Int32} (hh : ∀ p, p < n → hd p = cH (h p)) : fX9_met F wc (Int32.ofNat n) hd = some (b01 (wsB wc h n 0)) := by
  unfold fX9_met
  exact aC_met_loop hn hh n 0 F (by omega) (by omega)
/-- the first row of just so many exchanges that brings what is wanted -/
def fnd (n : Nat) (wc : Nat → Int32) : Nat → (Nat → Nat) → (Nat → Nat) → Option (List Nat)
  | 0, h, _ => if wsB wc h n 0 = true then some [] else none
  | m + 1, h, k => (rst n h k 40 0).findSome? (fun x => (fnd n wc m (sH h x) (sK h k x)).map (fun r => x :: r))
def fndL (n : Nat) (wc : Nat → Int32) (m : Nat) (h k : Nat → Nat) (l : List Nat) : Option (List Nat) := l.findSome? (fun x => (fnd n wc m (sH h x) (sK h k x)).map (fun r => x :: r))
theorem fndL_none {n : Nat} {wc : Nat → Int32} {m : Nat} {h k : Nat → Nat} {x : Nat} {l : List Nat} (e : fnd n wc m (sH h x) (sK h k x) = none) : fndL n wc m h k (x :: l) = fndL n wc m h k l := by
  unfold fndL; rw [List.findSome?_cons, e]; rfl
theorem fndL_some {n : Nat} {wc : Nat → Int32} {m : Nat} {h k : Nat → Nat} {x : Nat} {l r : List Nat} (e : fnd n wc m (sH h x) (sK h k x) = some r) : fndL n wc m h k (x :: l) = some (x :: r) := by
  unfold fndL; rw [List.findSome?_cons, e]; rfl
def fsN (g : Nat → Option (List Nat)) : Nat → Nat → Option (Nat × List Nat)
  | 0, _ => none
  | j + 1, m => match g m with
    | some r => some (m, r)
    | none => fsN g j (m + 1)
theorem fsN_none {g : Nat → Option (List Nat)} : ∀ j m, fsN g j m = none ↔ ∀ a, m ≤ a → a < m + j → g a = none
  | 0, m => ⟨fun _ a h1 h2 => absurd h2 (by omega), fun _ => rfl⟩
  | j + 1, m => by
    show (match g m with | some r => some (m, r) | none => fsN g j (m + 1)) = none ↔ _
    cases hg : g m with
    | some r =>
      refine ⟨fun z => absurd z (by simp), fun z => ?_⟩
      rw [z m (Nat.le_refl _) (by omega)] at hg; cases hg
    | none =>
      show fsN g j (m + 1) = none ↔ _
      rw [fsN_none j (m + 1)]
      refine ⟨fun z a h1 h2 => ?_, fun z a h1 h2 => z a (by omega) (by omega)⟩
      by_cases e : a = m
      · rw [e]; exact hg
      · exact z a (by omega) (by omega)
theorem fsN_some {g : Nat → Option (List Nat)} : ∀ j m a r, fsN g j m = some (a, r) ↔ m ≤ a ∧ a < m + j ∧ g a = some r ∧ ∀ b, m ≤ b → b < a → g b = none
  | 0, m, a, r => ⟨fun z => (by cases z), fun z => absurd z.2.1 (by have := z.1; omega)⟩
  | j + 1, m, a, r => by
    show (match g m with | some r => some (m, r) | none => fsN g j (m + 1)) = some (a, r) ↔ _
    cases hg : g m with
    | some s =>
      show some (m, s) = some (a, r) ↔ _
      refine ⟨fun z => ?_, fun ⟨z1, z2, z3, z4⟩ => ?_⟩
      · cases z; exact ⟨Nat.le_refl _, by omega, hg, fun b h1 h2 => absurd h2 (by omega)⟩
      · by_cases e : a = m
        · subst e; rw [z3] at hg; cases hg; rfl
        · have := z4 m (Nat.le_refl _) (by omega); rw [this] at hg; cases hg
    | none =>
      show fsN g j (m + 1) = some (a, r) ↔ _
      rw [fsN_some j (m + 1) a r]
      refine ⟨fun ⟨z1, z2, z3, z4⟩ => ⟨by omega, by omega, z3, fun b h1 h2 => ?_⟩, fun ⟨z1, z2, z3, z4⟩ => ?_⟩
      · by_cases e : b = m
        · rw [e]; exact hg
        · exact z4 b (by omega) h2
      · by_cases e : a = m
        · subst e; rw [z3] at hg; cases hg
        · exact ⟨by omega, by omega, z3, fun b h1 h2 => z4 b (by omega) h2⟩
theorem fsN_congr {g g' : Nat → Option (List Nat)} : ∀ j m, (∀ a, m ≤ a → a < m + j → g a = g' a) → fsN g j m = fsN g' j m
  | 0, _, _ => rfl
  | j + 1, m, h => by
    show (match g m with | some r => some (m, r) | none => fsN g j (m + 1)) = (match g' m with | some r => some (m, r) | none => fsN g' j (m + 1))
    rw [h m (Nat.le_refl _) (by omega), fsN_congr j (m + 1) (fun a h1 h2 => h a (by omega) (by omega))]
abbrev SKs := Int32 × Int32 × (Nat → Int32) × (Nat → Int32)
def skS (d : Nat) (g : SKs → SKs) (c : Nat) (s : SKs) : SKs := if s.2.1 ≤ Int32.ofNat d then s else g (s.1, s.2.1, s.2.2.1, upd s.2.2.2 d (Int32.ofNat c))
def skN (n : Nat) (wc : Nat → Int32) : Nat → (Nat → Nat) → (Nat → Nat) → Nat → SKs → SKs
  | 0, _, _, _, s => s
  | f + 1, h, k, d, s => if wsB wc h n 0 = true then (Int32.ofNat d, Int32.ofNat d - 1, va_cpy s.2.2.2 s.2.2.1 (Int32.toNatClampNeg (0 : Int32)) (Int32.toNatClampNeg (0 : Int32)) (Int32.toNatClampNeg (Int32.ofNat d)), s.2.2.2) else (rst n h k 40 0).foldl (fun s x => skS d (skN n wc f (sH h x) (sK h k x) (d + 1)) x s) s
def skP (n : Nat) (wc : Nat → Int32) (f : Nat) (h k : Nat → Nat) (d i j : Nat) (s : SKs) : SKs := skS d (skN n wc f (swH h i j) (swK h k i j) (d + 1)) (10 * i + j) s
def skI (s : SKs) : Prop := ∃ l : Nat, l ≤ 12 ∧ s.2.1 = Int32.ofNat l
theorem skI_lt {s : SKs} (hI : skI s) {d : Nat} (hd : d ≤ 100) (g : ¬ s.2.1 ≤ Int32.ofNat d) : d < 12 := by
  obtain ⟨l, h1, h2⟩ := hI
  rw [h2] at g
  have : ¬ l ≤ d := fun q => g ((z_le (by omega) (by omega)).mpr q)
  omega
theorem skN_inv {n : Nat} {wc : Nat → Int32} : ∀ (f : Nat) (h k : Nat → Nat) (d : Nat) (s : SKs), 1 ≤ d → d ≤ 12 → skI s → skI (skN n wc f h k d s)
  | 0, _, _, _, _, _, _, hI => hI
  | f + 1, h, k, d, s, h1, h2, hI => by
    show skI (if wsB wc h n 0 = true then _ else _)
    split
    · exact ⟨d - 1, by omega, by show Int32.ofNat d - 1 = _; rw [show (1 : Int32) = Int32.ofNat 1 from rfl, z_sub h1]⟩
    · have key : ∀ (l : List Nat) (s : SKs), skI s → skI (l.foldl (fun s x => skS d (skN n wc f (sH h x) (sK h k x) (d + 1)) x s) s) := by
        intro l
        induction l with
        | nil => intro s hs; exact hs
        | cons x l ih =>
          intro s hs
          rw [List.foldl_cons]
          refine ih _ ?_
          unfold skS
          split
          · exact hs
          · have := skI_lt hs (show d ≤ 100 by omega) (by assumption)
            exact skN_inv f _ _ _ _ (by omega) (by omega) hs
      exact key _ _ hI
theorem told_c {i j : Nat} (hij : i < j) (hj : j < 4) : fX10_told (Int32.ofNat i) (Int32.ofNat j) = Int32.ofNat (10 * i + j) := by
  have : ∀ j : Nat, j < 4 → ∀ i : Nat, i < j → fX10_told (Int32.ofNat i) (Int32.ofNat j) = Int32.ofNat (10 * i + j) := by decide +kernel
  exact this j hj i hij
section SEEK
variable {n : Nat} {wc : Nat → Int32} {h k : Nat → Nat} {hd kn : Nat → Int32} {made : Nat}
theorem aC_seek_in (ok : pOk n h k) (c : pC n h k hd kn) (hmd : made ≤ 12) (S : Nat → Nat → SKs → SKs) (rc : Int32 → Int32 → (Nat → Int32) → (Nat → Int32) → (Nat → Int32) → Int32 → (Nat → Int32) → (Nat → Int32) → Int32 → Option (Int32 × Int32 × (Nat → Int32) × (Nat → Int32) × (Nat → Int32) × (Nat → Int32)))
    (hS : ∀ i j s, i < j → j < n → canB h k i j = true → skI s → skI (S i j s) ∧ (s.2.1 ≤ Int32.ofNat made → S i j s = s) ∧ (¬ s.2.1 ≤ Int32.ofNat made → ∀ hd' kn', pC n (swH h i j) (swK h k i j) hd' kn' → rc s.1 s.2.1 s.2.2.1 (upd s.2.2.2 made (Int32.ofNat (10 * i + j))) wc (Int32.ofNat n) hd' kn' (Int32.ofNat (made + 1)) = some ((S i j s).1, (S i j s).2.1, (S i j s).2.2.1, (S i j s).2.2.2, hd', kn'))) {i : Nat} (hi : i < n)
    (kk : Int32 → Int32 → Int32 → (Nat → Int32) → (Nat → Int32) → (Nat → Int32) → (Nat → Int32) → Option (Int32 × Int32 × (Nat → Int32) × (Nat → Int32) × (Nat → Int32) × (Nat → Int32))) : ∀ (jn j N : Nat) (s : SKs), i < j → j + jn = n → jn < N → skI s →
      ∃ s', s' = (List.range' j jn).foldl (fun (s : SKs) j => if canB h k i j = true then S i j s else s) s ∧ skI s' ∧ fX9_seek_L29 wc (Int32.ofNat n) (Int32.ofNat made) rc (Int32.ofNat i) kk N (Int32.ofNat j) s.1 s.2.1 s.2.2.1 s.2.2.2 hd kn = kk (Int32.ofNat n) s'.1 s'.2.1 s'.2.2.1 s'.2.2.2 hd kn := by
  have hn := ok.1
  intro jn
  induction jn with
  | zero =>
    intro j N s hij hj hN hI
    obtain ⟨N, rfl⟩ : ∃ M, N = M + 1 := ⟨N - 1, by omega⟩
    refine ⟨s, rfl, hI, ?_⟩
    show fX9_seek_B29 _ _ _ _ _ _ _ _ _ _ _ _ _ _ = _
    unfold fX9_seek_B29
    rw [show j = n by omega, if_pos (Int32.le_refl _)]
  | succ jn ih =>
    intro j N s hij hj hN hI
    obtain ⟨N, rfl⟩ : ∃ M, N = M + 1 := ⟨N - 1, by omega⟩
    rw [List.range'_succ, List.foldl_cons]
    have hI1 : skI (if canB h k i j = true then S i j s else s) := by
      split
      · exact (hS i j s hij (by omega) (by assumption) hI).1
      · exact hI
    obtain ⟨s', e1, e2, e3⟩ := ih (j + 1) N (if canB h k i j = true then S i j s else s) (by omega) (by omega) (by omega) hI1
    refine ⟨s', e1, e2, ?_⟩
    rw [← e3]
    show fX9_seek_B29 _ _ _ _ _ _ _ _ _ _ _ _ _ _ = _
    unfold fX9_seek_B29
    rw [if_neg (fun q => absurd ((z_le (by omega) (by omega)).mp q) (by omega))]
    simp only [nh_let, z_succ]
    by_cases hc : canB h k i j = true
    · obtain ⟨g1, g2, g3⟩ := hS i j s hij (by omega) hc hI
      by_cases hlim : s.2.1 ≤ Int32.ofNat made
      · rw [if_pos hlim, if_pos hc, g2 hlim]
      · have m12 := skI_lt hI (by omega) hlim
        rw [if_neg hlim, aC_can ok c hi (show j < n by omega), hc]
        obtain ⟨hd', kn', w1, w2, w3, w4⟩ := aC_swap ok c hi (show j < n by omega) hc
        simp only [nh_b1]
        rw [if_neg (show ¬ b01 true = 0 by decide), z_chk m12 (by omega), z_ix (by omega), told_c hij (by omega), w1]
        simp only [nh_b2]
        rw [g3 hlim hd' kn' w2]
        simp only [nh_b6]
        rw [w4]
        rfl
    · rw [aC_can ok c hi (show j < n by omega), show canB h k i j = false by simpa using hc]
      simp only [nh_b1]
      rw [if_pos (show b01 false = 0 from rfl), if_neg (show ¬ false = true by decide)]
      split <;> rfl
theorem aC_seek_out (ok : pOk n h k) (c : pC n h k hd kn) (hmd : made ≤ 12) (S : Nat → Nat → SKs → SKs) (rc : Int32 → Int32 → (Nat → Int32) → (Nat → Int32) → (Nat → Int32) → Int32 → (Nat → Int32) → (Nat → Int32) → Int32 → Option (Int32 × Int32 × (Nat → Int32) × (Nat → Int32) × (Nat → Int32) × (Nat → Int32)))
    (hS : ∀ i j s, i < j → j < n → canB h k i j = true → skI s → skI (S i j s) ∧ (s.2.1 ≤ Int32.ofNat made → S i j s = s) ∧ (¬ s.2.1 ≤ Int32.ofNat made → ∀ hd' kn', pC n (swH h i j) (swK h k i j) hd' kn' → rc s.1 s.2.1 s.2.2.1 (upd s.2.2.2 made (Int32.ofNat (10 * i + j))) wc (Int32.ofNat n) hd' kn' (Int32.ofNat (made + 1)) = some ((S i j s).1, (S i j s).2.1, (S i j s).2.2.1, (S i j s).2.2.2, hd', kn'))) {F : Nat} (hF : 6 ≤ F)
    (kk : Int32 → Int32 → Int32 → (Nat → Int32) → (Nat → Int32) → (Nat → Int32) → (Nat → Int32) → Option (Int32 × Int32 × (Nat → Int32) × (Nat → Int32) × (Nat → Int32) × (Nat → Int32))) : ∀ (jn i N : Nat) (s : SKs), i + jn = n → jn < N → skI s →
      ∃ s', s' = (List.range' i jn).foldl (fun s i => (List.range' (i + 1) (n - (i + 1))).foldl (fun (s : SKs) j => if canB h k i j = true then S i j s else s) s) s ∧ skI s' ∧ fX9_seek_L16 wc (Int32.ofNat n) (Int32.ofNat made) rc F kk N (Int32.ofNat i) s.1 s.2.1 s.2.2.1 s.2.2.2 hd kn = kk (Int32.ofNat n) s'.1 s'.2.1 s'.2.2.1 s'.2.2.2 hd kn := by
  have hn := ok.1
  intro jn
  induction jn with
  | zero =>
    intro i N s hj hN hI
    obtain ⟨N, rfl⟩ : ∃ M, N = M + 1 := ⟨N - 1, by omega⟩
    refine ⟨s, rfl, hI, ?_⟩
    show fX9_seek_B16 _ _ _ _ _ _ _ _ _ _ _ _ _ _ = _
    unfold fX9_seek_B16
    rw [show i = n by omega, if_pos (Int32.le_refl _)]
  | succ jn ih =>
    intro i N s hj hN hI
    obtain ⟨N, rfl⟩ : ∃ M, N = M + 1 := ⟨N - 1, by omega⟩
    rw [List.range'_succ, List.foldl_cons]
    obtain ⟨s1, f1, f0, f2⟩ := aC_seek_in ok c hmd S rc hS (show i < n by omega) (fun x4_27 a0_best_28 a0_limit_29 a0_bestRow_30 a0_row_31 a1_held_32 a1_known_33 => nh_let (α := Int32) (Int32.ofNat i + 1) (fun x3_57 => (fX9_seek_L16 wc (Int32.ofNat n) (Int32.ofNat made) rc F kk N) x3_57 a0_best_28 a0_limit_29 a0_bestRow_30 a0_row_31 a1_held_32 a1_known_33)) (n - (i + 1)) (i + 1) F s (by omega) (by omega) (by omega) hI
    obtain ⟨s', e1, e0, e2⟩ := ih (i + 1) N s1 (by omega) (by omega) f0
    refine ⟨s', by rw [e1, f1], e0, ?_⟩
    rw [← e2]
    show fX9_seek_B16 _ _ _ _ _ _ _ _ _ _ _ _ _ _ = _
    unfold fX9_seek_B16
    rw [if_neg (fun q => absurd ((z_le (by omega) (by omega)).mp q) (by omega))]
    simp only [nh_let, z_succ] at f2 ⊢
    rw [f2]
end SEEK
theorem z_cp12 : ∀ n : Nat, n < 13 → nh_cp 0 0 (Int32.ofNat n) 12 12 = true := by decide +kernel
theorem aC_seek {n F : Nat} (hF : 6 ≤ F) {wc : Nat → Int32} : ∀ (f : Nat) (h k : Nat → Nat) (hd kn : Nat → Int32) (made : Nat) (s : SKs), pOk n h k → pC n h k hd kn → made ≤ 12 → 13 ≤ f + made → skI s → fX9_seek F f s.1 s.2.1 s.2.2.1 s.2.2.2 wc (Int32.ofNat n) hd kn (Int32.ofNat made) = some ((skN n wc f h k made s).1, (skN n wc f h k made s).2.1, (skN n wc f h k made s).2.2.1, (skN n wc f h k made s).2.2.2, hd, kn) := by
  intro f
  induction f with
  | zero => intro h k hd kn made s ok c h1 h2 hI; omega
  | succ f ih =>
    intro h k hd kn made s ok c h1 h2 hI
    have hn := ok.1
    show fX9_seek_R F (fX9_seek F f) _ _ _ _ _ _ _ _ _ = _
    unfold fX9_seek_R
    rw [aC_met hn hF (fun p hp => (c p hp).1)]
    simp only [nh_b1]
    cases hw : wsB wc h n 0 with
    | true =>
      rw [if_neg (show ¬ b01 true = 0 by decide)]
      have e : skN n wc (f + 1) h k made s = (Int32.ofNat made, Int32.ofNat made - 1, va_cpy s.2.2.2 s.2.2.1 (Int32.toNatClampNeg (0 : Int32)) (Int32.toNatClampNeg (0 : Int32)) (Int32.toNatClampNeg (Int32.ofNat made)), s.2.2.2) := by
        show (if wsB wc h n 0 = true then _ else _) = _
        rw [if_pos hw]
      rw [e]
      unfold fX9_takeRow
      simp only [nh_let]
      rw [z_cp12 made (by omega)]
      rfl
    | false =>
      rw [if_pos (show b01 false = 0 from rfl)]
      have hS : ∀ i j s, i < j → j < n → canB h k i j = true → skI s → skI (skP n wc f h k made i j s) ∧ (s.2.1 ≤ Int32.ofNat made → skP n wc f h k made i j s = s) ∧ (¬ s.2.1 ≤ Int32.ofNat made → ∀ hd' kn', pC n (swH h i j) (swK h k i j) hd' kn' → fX9_seek F f s.1 s.2.1 s.2.2.1 (upd s.2.2.2 made (Int32.ofNat (10 * i + j))) wc (Int32.ofNat n) hd' kn' (Int32.ofNat (made + 1)) = some ((skP n wc f h k made i j s).1, (skP n wc f h k made i j s).2.1, (skP n wc f h k made i j s).2.2.1, (skP n wc f h k made i j s).2.2.2, hd', kn')) := by
        intro i j s hij hj hc hs
        refine ⟨?_, fun g => if_pos g, fun g hd' kn' c' => ?_⟩
        · unfold skP skS
          split
          · exact hs
          · have := skI_lt hs (show made ≤ 100 by omega) (by assumption)
            exact skN_inv _ _ _ _ _ (by omega) (by omega) hs
        · have e : skP n wc f h k made i j s = skN n wc f (swH h i j) (swK h k i j) (made + 1) (s.1, s.2.1, s.2.2.1, upd s.2.2.2 made (Int32.ofNat (10 * i + j))) := if_neg g
          rw [e]
          have := skI_lt hs (by omega) g
          exact ih _ _ _ _ _ (s.1, s.2.1, s.2.2.1, upd s.2.2.2 made (Int32.ofNat (10 * i + j))) (pOk_sw ok (by omega) hj hc) c' (by omega) (by omega) hs
      obtain ⟨s', e1, e0, e2⟩ := aC_seek_out ok c h1 (skP n wc f h k made) (fX9_seek F f) hS hF (fun x3_11 a0_best_12 a0_limit_13 a0_bestRow_14 a0_row_15 a1_held_16 a1_known_17 => some (a0_best_12, a0_limit_13, a0_bestRow_14, a0_row_15, a1_held_16, a1_known_17)) n 0 F s (by omega) (by omega) hI
      rw [walk_fold' hn] at e1
      have e3 : skN n wc (f + 1) h k made s = s' := by
        show (if wsB wc h n 0 = true then _ else _) = _
        rw [if_neg (by rw [hw]; decide), e1]
        congr 1
        funext a x
        unfold skP
        rw [Nat.div_add_mod]
        rfl
      rw [e3]
      exact e2
/-- what the class's search leaves -/
def skO (d : Nat) (o : Option (Nat × List Nat)) (s s' : SKs) : Prop := (∀ q, q < d → s'.2.2.2 q = s.2.2.2 q) ∧ match o with
  | none => s'.1 = s.1 ∧ s'.2.1 = s.2.1 ∧ s'.2.2.1 = s.2.2.1
  | some a => s'.1 = Int32.ofNat (d + a.1) ∧ s'.2.1 = Int32.ofNat (d + a.1) - 1 ∧ (∀ q, q < d → s'.2.2.1 q = s.2.2.2 q) ∧ ∀ i, i < a.1 → s'.2.2.1 (d + i) = Int32.ofNat (a.2.getD i 0)
def gNx (n : Nat) (wc : Nat → Int32) (h k : Nat → Nat) (l : List Nat) : Nat → Option (List Nat)
  | 0 => none
  | m + 1 => fndL n wc m h k l
theorem skO_row {d : Nat} {o : Option (Nat × List Nat)} {s s1 s' : SKs} (e1 : ∀ q, q < d → s1.2.2.2 q = s.2.2.2 q) (e2 : s1.1 = s.1) (e3 : s1.2.1 = s.2.1) (e4 : s1.2.2.1 = s.2.2.1) (g : skO d o s1 s') : skO d o s s' := by
  obtain ⟨g0, g1⟩ := g
  refine ⟨fun q hq => by rw [g0 q hq, e1 q hq], ?_⟩
  cases o with
  | none => exact ⟨g1.1.trans e2, g1.2.1.trans e3, g1.2.2.trans e4⟩
  | some a => exact ⟨g1.1, g1.2.1, fun q hq => by rw [g1.2.2.1 q hq, e1 q hq], g1.2.2.2⟩
theorem skO_fold {n : Nat} {wc : Nat → Int32} {h k : Nat → Nat} {d f : Nat} (hd : d ≤ 12) (IH : ∀ (x l : Nat) (s : SKs), s.2.1 = Int32.ofNat l → d + 1 ≤ l → l ≤ 12 → skO (d + 1) (fsN (fun m => fnd n wc m (sH h x) (sK h k x)) (l - (d + 1) + 1) 0) s (skN n wc f (sH h x) (sK h k x) (d + 1) s)) : ∀ (xs : List Nat) (s : SKs) (l : Nat), s.2.1 = Int32.ofNat l → d ≤ l → l ≤ 12 → skO d (fsN (gNx n wc h k xs) (l - d + 1) 0) s (xs.foldl (fun s x => skS d (skN n wc f (sH h x) (sK h k x) (d + 1)) x s) s) := by
  intro xs
  induction xs with
  | nil =>
    intro s l e h1 h2
    have : fsN (gNx n wc h k []) (l - d + 1) 0 = none := (fsN_none _ _).mpr (fun a _ _ => by cases a <;> rfl)
    rw [this]
    exact ⟨fun _ _ => rfl, rfl, rfl, rfl⟩
  | cons x xs ih =>
    intro s l e h1 h2
    rw [List.foldl_cons]
    by_cases hl : l = d
    · have e0 : skS d (skN n wc f (sH h x) (sK h k x) (d + 1)) x s = s := if_pos (by rw [e, hl]; exact Int32.le_refl _)
      rw [e0]
      have e1 : fsN (gNx n wc h k (x :: xs)) (l - d + 1) 0 = fsN (gNx n wc h k xs) (l - d + 1) 0 := fsN_congr _ _ (fun a _ ha => by
        rw [show a = 0 by omega]; rfl)
      rw [e1]
      exact ih s l e h1 h2
    · have e0 : skS d (skN n wc f (sH h x) (sK h k x) (d + 1)) x s = skN n wc f (sH h x) (sK h k x) (d + 1) (s.1, s.2.1, s.2.2.1, upd s.2.2.2 d (Int32.ofNat x)) := if_neg (by rw [e]; exact fun q => absurd ((z_le (by omega) (by omega)).mp q) (by omega))
      rw [e0]
      have I := IH x l (s.1, s.2.1, s.2.2.1, upd s.2.2.2 d (Int32.ofNat x)) e (by omega) h2
      generalize skN n wc f (sH h x) (sK h k x) (d + 1) (s.1, s.2.1, s.2.2.1, upd s.2.2.2 d (Int32.ofNat x)) = s1 at I
      obtain ⟨I0, I1⟩ := I
      have row1 : ∀ q, q < d → s1.2.2.2 q = s.2.2.2 q := fun q hq => by
        rw [I0 q (by omega)]
        show upd s.2.2.2 d (Int32.ofNat x) q = _
        rw [upd_ne (by omega)]
      rw [show l - (d + 1) + 1 = l - d by omega] at I1
      cases ho : fsN (fun m => fnd n wc m (sH h x) (sK h k x)) (l - d) 0 with
      | none =>
        rw [ho] at I1
        have hno := (fsN_none _ _).mp ho
        have e1 : fsN (gNx n wc h k (x :: xs)) (l - d + 1) 0 = fsN (gNx n wc h k xs) (l - d + 1) 0 := fsN_congr _ _ (fun a _ ha => by
          cases a with
          | zero => rfl
          | succ a => exact fndL_none (hno a (by omega) (by omega)))
        rw [e1]
        exact skO_row row1 I1.1 I1.2.1 I1.2.2 (ih s1 l (I1.2.1.trans e) h1 h2)
      | some a1 =>
        obtain ⟨m1, r1⟩ := a1
        rw [ho] at I1
        obtain ⟨b1, b2, b3, b4⟩ := I1
        have b1 : s1.1 = Int32.ofNat (d + 1 + m1) := b1
        have b2 : s1.2.1 = Int32.ofNat (d + 1 + m1) - 1 := b2
        have b4 : ∀ i, i < m1 → s1.2.2.1 (d + 1 + i) = Int32.ofNat (r1.getD i 0) := b4
        obtain ⟨-, z2, z3, z4⟩ := (fsN_some _ _ _ _).mp ho
        have el : s1.2.1 = Int32.ofNat (d + m1) := by
          rw [b2, show (1 : Int32) = Int32.ofNat 1 from rfl, z_sub (by omega)]; congr 1; omega
        have J := ih s1 (d + m1) el (by omega) (by omega)
        rw [show d + m1 - d + 1 = m1 + 1 by omega] at J
        have hpre : ∀ b, b < m1 + 1 → gNx n wc h k (x :: xs) b = gNx n wc h k xs b := fun b hb => by
          cases b with
          | zero => rfl
          | succ b => exact fndL_none (z4 b (by omega) (by omega))
        cases ho2 : fsN (gNx n wc h k xs) (m1 + 1) 0 with
        | none =>
          have hno := (fsN_none _ _).mp ho2
          rw [ho2] at J
          obtain ⟨J0, J1, J2, J3⟩ := J
          have e1 : fsN (gNx n wc h k (x :: xs)) (l - d + 1) 0 = some (m1 + 1, x :: r1) := (fsN_some _ _ _ _).mpr ⟨by omega, by omega, fndL_some z3, fun b _ hb => by rw [hpre b hb]; exact hno b (by omega) (by omega)⟩
          rw [e1]
          refine ⟨fun q hq => by rw [J0 q hq, row1 q hq], ?_, ?_, fun q hq => ?_, fun i hi => ?_⟩
          · rw [J1, b1, show d + 1 + m1 = d + (m1 + 1) by omega]
          · rw [J2, b2, show d + 1 + m1 = d + (m1 + 1) by omega]
          · rw [J3, b3 q (by omega)]
            show upd s.2.2.2 d (Int32.ofNat x) q = _
            rw [upd_ne (by omega)]
          · rw [J3]
            cases i with
            | zero =>
              rw [show d + 0 = d from rfl, b3 d (by omega)]
              show upd s.2.2.2 d (Int32.ofNat x) d = _
              rw [upd_same]; rfl
            | succ i =>
              rw [show d + (i + 1) = d + 1 + i by omega, b4 i (by have : i + 1 < m1 + 1 := hi; omega)]; rfl
        | some a2 =>
          obtain ⟨m2, r2⟩ := a2
          rw [ho2] at J
          obtain ⟨J0, J1, J2, J3, J4⟩ := J
          obtain ⟨-, y2, y3, y4⟩ := (fsN_some _ _ _ _).mp ho2
          have e1 : fsN (gNx n wc h k (x :: xs)) (l - d + 1) 0 = some (m2, r2) := (fsN_some _ _ _ _).mpr ⟨by omega, by omega, by rw [hpre m2 (by omega)]; exact y3, fun b hb1 hb => by rw [hpre b (by omega)]; exact y4 b hb1 hb⟩
          rw [e1]
          exact ⟨fun q hq => by rw [J0 q hq, row1 q hq], J1, J2, fun q hq => by rw [J3 q hq, row1 q hq], J4⟩
theorem skO_all {n : Nat} {wc : Nat → Int32} : ∀ (f : Nat) (h k : Nat → Nat) (d l : Nat) (s : SKs), s.2.1 = Int32.ofNat l → d ≤ l → l ≤ 12 → 13 ≤ f + d → skO d (fsN (fun m => fnd n wc m h k) (l - d + 1) 0) s (skN n wc f h k d s)
  | 0, _, _, d, l, s, _, h1, h2, h3 => by omega
  | f + 1, h, k, d, l, s, e, h1, h2, h3 => by
    show skO d _ s (if wsB wc h n 0 = true then _ else _)
    by_cases hw : wsB wc h n 0 = true
    · rw [if_pos hw]
      have e1 : fsN (fun m => fnd n wc m h k) (l - d + 1) 0 = some (0, []) := (fsN_some _ _ _ _).mpr ⟨by omega, by omega, if_pos hw, fun b _ hb => absurd hb (by omega)⟩
      rw [e1]
      exact ⟨fun _ _ => rfl, rfl, rfl, fun q hq => va_cpy0 (by omega) hq, fun i hi => absurd hi (Nat.not_lt_zero i)⟩
    · rw [if_neg hw]
      have e1 : fsN (fun m => fnd n wc m h k) (l - d + 1) 0 = fsN (gNx n wc h k (rst n h k 40 0)) (l - d + 1) 0 := fsN_congr _ _ (fun a _ _ => by
        cases a with
        | zero => exact if_neg hw
        | succ a => rfl)
      rw [e1]
      exact skO_fold (by omega) (fun x l s e h1 h2 => skO_all f _ _ _ _ _ e h1 h2 (by omega)) _ s l e h1 h2
theorem aC_seekAll {n F : Nat} (hF : 6 ≤ F) {wc : Nat → Int32} {h k : Nat → Nat} {hd kn : Nat → Int32} (ok : pOk n h k) (c : pC n h k hd kn) (be li : Int32) (br row : Nat → Int32) : ∃ be' li' br' row', fX9_seekAll F be li br row wc (Int32.ofNat n) hd kn = some (be', li', br', row', hd, kn) ∧ match fsN (fun m => fnd n wc m h k) 13 0 with
    | none => be' = -9
    | some a => be' = Int32.ofNat a.1 ∧ ∀ i, i < a.1 → br' i = Int32.ofNat (a.2.getD i 0) := by
  have e := aC_seek hF (wc := wc) 20 h k hd kn 0 (-9, 12, br, row) ok c (by omega) (by omega) ⟨12, by omega, rfl⟩
  have o := skO_all (n := n) (wc := wc) 20 h k 0 12 (-9, 12, br, row) rfl (by omega) (by omega) (by omega)
  generalize skN n wc 20 h k 0 (-9, 12, br, row) = s' at e o
  obtain ⟨-, o⟩ := o
  refine ⟨s'.1, s'.2.1, s'.2.2.1, s'.2.2.2, ?_, ?_⟩
  · unfold fX9_seekAll
    rw [show fX9_seek F 20 (-9) 12 br row wc (Int32.ofNat n) hd kn 0 = _ from e]
    rfl
  · rw [show 12 - 0 + 1 = 13 from rfl] at o
    cases ho : fsN (fun m => fnd n wc m h k) 13 0 with
    | none => rw [ho] at o; exact o.1
    | some a =>
      rw [ho] at o
      refine ⟨by rw [o.1, Nat.zero_add], fun i hi => ?_⟩
      have := o.2.2.2 i hi
      rw [Nat.zero_add] at this
      exact this
