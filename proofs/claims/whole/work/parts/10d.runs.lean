/-! rows of exchanges: the pairs as codes, in order; all rows gone through -/
def okc (n : Nat) (h k : Nat → Nat) (c : Nat) : Bool := decide (c / 10 < c % 10) && decide (c % 10 < n) && canB h k (c / 10) (c % 10)
def rst (n : Nat) (h k : Nat → Nat) : Nat → Nat → List Nat
  | 0, _ => []
  | j + 1, c => if okc n h k c = true then c :: rst n h k j (c + 1) else rst n h k j (c + 1)
def sH (h : Nat → Nat) (c : Nat) : Nat → Nat := swH h (c / 10) (c % 10)
def sK (h k : Nat → Nat) (c : Nat) : Nat → Nat := swK h k (c / 10) (c % 10)
def dfs {α : Type} (leaf : Nat → α → α) (enter : (Nat → Nat) → α → α) (n : Nat) : Nat → (Nat → Nat) → (Nat → Nat) → Nat → α → α
  | 0, _, _, _, a => a
  | f + 1, h, k, d, a => if (rst n h k 40 0).isEmpty = true then leaf d a else (rst n h k 40 0).foldl (fun a x => dfs leaf enter n f (sH h x) (sK h k x) (d + 1) (enter (sH h x) a)) a
def popc (k : Nat) : Nat := (if k.testBit 0 then 1 else 0) + (if k.testBit 1 then 1 else 0) + (if k.testBit 2 then 1 else 0) + (if k.testBit 3 then 1 else 0) + (if k.testBit 4 then 1 else 0) + (if k.testBit 5 then 1 else 0)
theorem popc_or : ∀ k : Nat, k < 64 → ∀ s : Nat, s < 6 → k.testBit s = false → popc (k ||| 2 ^ s) = popc k + 1 := by decide +kernel
theorem popc_le : ∀ k : Nat, k < 64 → popc k ≤ 6 := by decide +kernel
def remS (k : Nat → Nat) : Nat → Nat
  | 0 => 0
  | n + 1 => remS k n + (6 - popc (k n))
theorem remS_congr {k k' : Nat → Nat} : ∀ n, (∀ p, p < n → k p = k' p) → remS k n = remS k' n
  | 0, _ => rfl
  | n + 1, h => by
    show remS k n + _ = remS k' n + _
    rw [remS_congr n (fun p hp => h p (by omega)), h n (by omega)]
theorem remS_up {k : Nat → Nat} {i x : Nat} : ∀ n, i < n → remS (fun p => if p = i then x else k p) n + (6 - popc (k i)) = remS k n + (6 - popc x)
  | 0, h => absurd h (by omega)
  | n + 1, h => by
    show remS (fun p => if p = i then x else k p) n + (6 - popc (if n = i then x else k n)) + _ = remS k n + (6 - popc (k n)) + _
    by_cases hn : n = i
    · subst hn
      rw [if_pos rfl, remS_congr (k' := k) n (fun p hp => by show (if p = n then x else k p) = k p; rw [if_neg (by omega)])]
      omega
    · rw [if_neg hn]
      have := remS_up (k := k) (x := x) n (show i < n by omega)
      omega
theorem canB_parts {h k : Nat → Nat} {i j : Nat} (hc : canB h k i j = true) : h i < 6 ∧ h j < 6 ∧ (k i).testBit (h j) = false ∧ (k j).testBit (h i) = false := by
  unfold canB at hc
  simp only [Bool.and_eq_true, decide_eq_true_eq, Bool.not_eq_true'] at hc
  exact ⟨hc.1.1.1, hc.1.1.2, hc.1.2, hc.2⟩
theorem canB_ne {n : Nat} {h k : Nat → Nat} (ok : pOk n h k) {i j : Nat} (hi : i < n) (hc : canB h k i j = true) : i ≠ j := by
  obtain ⟨h1, h2, h3, h4⟩ := canB_parts hc
  intro e; subst e
  rw [(ok.2 i hi).2.2 h1] at h3; cases h3
theorem rem_sw {n : Nat} {h k : Nat → Nat} (ok : pOk n h k) {i j : Nat} (hi : i < n) (hj : j < n) (hc : canB h k i j = true) : remS (swK h k i j) n + 2 = remS k n := by
  obtain ⟨h1, h2, h3, h4⟩ := canB_parts hc
  have hij := canB_ne ok hi hc
  have vi := ok.2 i hi
  have vj := ok.2 j hj
  have a := remS_up (k := fun p => if p = j then k j ||| 2 ^ h i else k p) (i := i) (x := k i ||| 2 ^ h j) n hi
  have b := remS_up (k := k) (i := j) (x := k j ||| 2 ^ h i) n hj
  rw [if_neg hij] at a
  have p1 := popc_or _ vi.2.1 _ h2 h3
  have p2 := popc_or _ vj.2.1 _ h1 h4
  have q1 := popc_le _ (z_or_lt _ vi.2.1 _ h2)
  have q2 := popc_le _ (z_or_lt _ vj.2.1 _ h1)
  have e : remS (swK h k i j) n = remS (fun p => if p = i then k i ||| 2 ^ h j else if p = j then k j ||| 2 ^ h i else k p) n := rfl
  omega
theorem pOk_sw {n : Nat} {h k : Nat → Nat} (ok : pOk n h k) {i j : Nat} (hi : i < n) (hj : j < n) (hc : canB h k i j = true) : pOk n (swH h i j) (swK h k i j) := by
  have c : pC n h k (fun p => cH (h p)) (fun p => Int32.ofNat (k p)) := fun p _ => ⟨rfl, rfl⟩
  obtain ⟨-, -, -, -, h3, -⟩ := aC_swap ok c hi hj hc
  exact h3
theorem okc_parts {n : Nat} {h k : Nat → Nat} {c : Nat} (hc : okc n h k c = true) : c / 10 < c % 10 ∧ c % 10 < n ∧ canB h k (c / 10) (c % 10) = true := by
  unfold okc at hc
  simp only [Bool.and_eq_true, decide_eq_true_eq] at hc
  exact ⟨hc.1.1, hc.1.2, hc.2⟩
/-- the next exchange at a depth: none, or the first one behind -/
theorem mM_next_loop {n : Nat} {h k : Nat → Nat} {had holds : Nat → Int32} {d F : Nat} (ok : pOk n h k) (c0 : pM n h k had holds d) (hd : d < 13) (hF : 5 ≤ F) (tried : Nat → Int32) (kk : Int32 → Option (Int32 × (Nat → Int32) × (Nat → Int32) × (Nat → Int32))) : ∀ (j c N : Nat), c + j = 40 → j < N →
    (rst n h k j c = [] ∧ fX11_next_L9 (Int32.ofNat n) had holds tried (Int32.ofNat d) F kk N (Int32.ofNat c) = kk 40) ∨
    ∃ x, c ≤ x ∧ x < 40 ∧ okc n h k x = true ∧ rst n h k j c = x :: rst n h k (39 - x) (x + 1) ∧ ∃ had' holds', fX11_next_L9 (Int32.ofNat n) had holds tried (Int32.ofNat d) F kk N (Int32.ofNat c) = some (1, had', holds', upd tried d (Int32.ofNat x)) ∧ pM n (sH h x) (sK h k x) had' holds' (d + 1) ∧ ∀ q, q < 4 * (d + 1) ∨ 4 * (d + 1) + 4 ≤ q → had' q = had q ∧ holds' q = holds q := by
  have hn := ok.1
  intro j
  induction j with
  | zero =>
    intro c N hc hN
    obtain ⟨N, rfl⟩ : ∃ M, N = M + 1 := ⟨N - 1, by omega⟩
    left
    refine ⟨rfl, ?_⟩
    show fX11_next_B9 _ _ _ _ _ _ _ _ _ = _
    unfold fX11_next_B9
    rw [show c = 40 by omega]
    rfl
  | succ j ih =>
    intro c N hc hN
    obtain ⟨N, rfl⟩ : ∃ M, N = M + 1 := ⟨N - 1, by omega⟩
    have e10 : Int32.ofNat c / 10 = Int32.ofNat (c / 10) := by
      have : ∀ c : Nat, c < 40 → Int32.ofNat c / 10 = Int32.ofNat (c / 10) := by decide +kernel
      exact this c (by omega)
    have e1 : Int32.ofNat c - Int32.ofNat (c / 10) * 10 = Int32.ofNat (c % 10) := by
      have : ∀ c : Nat, c < 40 → Int32.ofNat c - Int32.ofNat (c / 10) * 10 = Int32.ofNat (c % 10) := by decide +kernel
      exact this c (by omega)
    have hskip : okc n h k c = false → ((rst n h k (j + 1) c = [] ∧ fX11_next_L9 (Int32.ofNat n) had holds tried (Int32.ofNat d) F kk N (Int32.ofNat c + 1) = kk 40) ∨
    ∃ x, c ≤ x ∧ x < 40 ∧ okc n h k x = true ∧ rst n h k (j + 1) c = x :: rst n h k (39 - x) (x + 1) ∧ ∃ had' holds', fX11_next_L9 (Int32.ofNat n) had holds tried (Int32.ofNat d) F kk N (Int32.ofNat c + 1) = some (1, had', holds', upd tried d (Int32.ofNat x)) ∧ pM n (sH h x) (sK h k x) had' holds' (d + 1) ∧ ∀ q, q < 4 * (d + 1) ∨ 4 * (d + 1) + 4 ≤ q → had' q = had q ∧ holds' q = holds q) := by
      intro hf
      have er : rst n h k (j + 1) c = rst n h k j (c + 1) := by
        show (if okc n h k c = true then _ else _) = _
        rw [hf]; rfl
      rw [er, z_succ]
      rcases ih (c + 1) N (by omega) (by omega) with g | ⟨x, g1, g2⟩
      · exact Or.inl g
      · exact Or.inr ⟨x, by omega, g2⟩
    show (_ ∧ fX11_next_B9 _ _ _ _ _ _ _ _ _ = _) ∨ ∃ x, _ ∧ _ ∧ _ ∧ _ ∧ ∃ had' holds', fX11_next_B9 _ _ _ _ _ _ _ _ _ = _ ∧ _
    unfold fX11_next_B9
    rw [if_neg (show ¬ (40 : Int32) ≤ Int32.ofNat c from fun q => absurd ((z_le (a := 40) (b := c) (by omega) (by omega)).mp q) (by omega))]
    simp only [nh_let, e1, e10]
    by_cases ha : c % 10 ≤ c / 10
    · rw [if_pos ((z_le (by omega) (by omega)).mpr ha)]
      exact hskip (by unfold okc; rw [decide_eq_false (by omega)]; rfl)
    · rw [if_neg (fun q => ha ((z_le (by omega) (by omega)).mp q))]
      by_cases hb : n ≤ c % 10
      · rw [if_pos ((z_le (by omega) (by omega)).mpr hb)]
        exact hskip (by unfold okc; rw [decide_eq_false (show ¬ c % 10 < n by omega), Bool.and_false]; rfl)
      · rw [if_neg (fun q => hb ((z_le (by omega) (by omega)).mp q)), mM_may ok c0 (by omega) (show c / 10 < n by omega) (show c % 10 < n by omega)]
        simp only [nh_b1]
        by_cases hcan : canB h k (c / 10) (c % 10) = true
        · rw [hcan, if_neg (by decide)]
          right
          have hok : okc n h k c = true := by unfold okc; rw [decide_eq_true (show c / 10 < c % 10 by omega), decide_eq_true (show c % 10 < n by omega), hcan]; rfl
          refine ⟨c, Nat.le_refl _, by omega, hok, ?_, ?_⟩
          · show (if okc n h k c = true then _ else _) = _
            rw [if_pos hok, show 39 - c = j by omega]
          · obtain ⟨had1, holds1, g1, g2, g3⟩ := mM_lay (F := F) hn c0 (show d < 14 by omega) (show d + 1 < 14 by omega) (by omega) hF
            obtain ⟨had2, holds2, f1, f2, f3⟩ := mM_go ok g2 (show d + 1 < 14 by omega) (show c / 10 < n by omega) (show c % 10 < n by omega) hcan
            refine ⟨had2, holds2, ?_, f2, fun q hq => ?_⟩
            · rw [z_chk (show d < 14 by omega) (by omega), z_ix (by omega), z_succ, g1]
              simp only [nh_b2]
              rw [f1]
            · rw [(f3 q hq).1, (f3 q hq).2]
              exact g3 q hq
        · rw [show canB h k (c / 10) (c % 10) = false by simpa using hcan, if_pos (by decide)]
          exact hskip (by unfold okc; rw [show canB h k (c / 10) (c % 10) = false by simpa using hcan, Bool.and_false])
theorem mM_neg {tp : Int32} {had holds tried : Nat → Int32} {i1 : Int32} {F : Nat} {kk rr : Int32 → Option (Int32 × (Nat → Int32) × (Nat → Int32) × (Nat → Int32))} {x y : Int32} (h1 : ¬ 40 ≤ x) (h2 : x - x / 10 * 10 ≤ x / 10) (h3 : x + 1 = y) : fX11_next_B9 tp had holds tried i1 F kk rr x = rr y := by
  unfold fX11_next_B9
  rw [if_neg h1]
  simp only [nh_let]
  rw [if_pos h2, h3]
theorem mM_neg8 {tp : Int32} {had holds tried : Nat → Int32} {i1 : Int32} {F : Nat} {kk : Int32 → Option (Int32 × (Nat → Int32) × (Nat → Int32) × (Nat → Int32))} (M : Nat) : fX11_next_L9 tp had holds tried i1 F kk (M + 8) (-8) = fX11_next_L9 tp had holds tried i1 F kk M 0 := by
  show fX11_next_B9 _ _ _ _ _ _ _ (fX11_next_L9 tp had holds tried i1 F kk (M + 7)) _ = _
  rw [mM_neg (y := -7) (by decide) (by decide) (by decide)]
  show fX11_next_B9 _ _ _ _ _ _ _ (fX11_next_L9 tp had holds tried i1 F kk (M + 6)) _ = _
  rw [mM_neg (y := -6) (by decide) (by decide) (by decide)]
  show fX11_next_B9 _ _ _ _ _ _ _ (fX11_next_L9 tp had holds tried i1 F kk (M + 5)) _ = _
  rw [mM_neg (y := -5) (by decide) (by decide) (by decide)]
  show fX11_next_B9 _ _ _ _ _ _ _ (fX11_next_L9 tp had holds tried i1 F kk (M + 4)) _ = _
  rw [mM_neg (y := -4) (by decide) (by decide) (by decide)]
  show fX11_next_B9 _ _ _ _ _ _ _ (fX11_next_L9 tp had holds tried i1 F kk (M + 3)) _ = _
  rw [mM_neg (y := -3) (by decide) (by decide) (by decide)]
  show fX11_next_B9 _ _ _ _ _ _ _ (fX11_next_L9 tp had holds tried i1 F kk (M + 2)) _ = _
  rw [mM_neg (y := -2) (by decide) (by decide) (by decide)]
  show fX11_next_B9 _ _ _ _ _ _ _ (fX11_next_L9 tp had holds tried i1 F kk (M + 1)) _ = _
  rw [mM_neg (y := -1) (by decide) (by decide) (by decide)]
  show fX11_next_B9 _ _ _ _ _ _ _ (fX11_next_L9 tp had holds tried i1 F kk M) _ = _
  rw [mM_neg (y := 0) (by decide) (by decide) (by decide)]
theorem mM_next {n : Nat} {h k : Nat → Nat} {had holds tried : Nat → Int32} {d F c : Nat} (ok : pOk n h k) (c0 : pM n h k had holds d) (hd : d < 13) (hF : 60 ≤ F) (hc : c ≤ 40) (ht : (tried d = -9 ∧ c = 0) ∨ (1 ≤ c ∧ tried d = Int32.ofNat (c - 1))) :
    (rst n h k (40 - c) c = [] ∧ fX11_next F (Int32.ofNat n) had holds tried (Int32.ofNat d) = some (0, had, holds, tried)) ∨
    ∃ x, c ≤ x ∧ x < 40 ∧ okc n h k x = true ∧ rst n h k (40 - c) c = x :: rst n h k (39 - x) (x + 1) ∧ ∃ had' holds', fX11_next F (Int32.ofNat n) had holds tried (Int32.ofNat d) = some (1, had', holds', upd tried d (Int32.ofNat x)) ∧ pM n (sH h x) (sK h k x) had' holds' (d + 1) ∧ ∀ q, q < 4 * (d + 1) ∨ 4 * (d + 1) + 4 ≤ q → had' q = had q ∧ holds' q = holds q := by
  have e : ∃ N, 41 ≤ N ∧ fX11_next F (Int32.ofNat n) had holds tried (Int32.ofNat d) = fX11_next_L9 (Int32.ofNat n) had holds tried (Int32.ofNat d) F (fun x2_4 => some (0, had, holds, tried)) N (Int32.ofNat c) := by
    unfold fX11_next
    rw [z_chk (show d < 14 by omega) (by omega), z_ix (by omega)]
    simp only [nh_let]
    rcases ht with ⟨h1, rfl⟩ | ⟨h1, h2⟩
    · obtain ⟨M, hM⟩ : ∃ M, F = M + 8 := ⟨F - 8, by omega⟩
      refine ⟨M, by omega, ?_⟩
      rw [h1, show (-9 : Int32) + 1 = -8 by decide]
      conv => lhs; arg 8; rw [hM]
      exact mM_neg8 M
    · refine ⟨F, by omega, ?_⟩
      rw [h2, z_succ, Nat.sub_add_cancel h1]
  obtain ⟨N, hN, e⟩ := e
  rw [e]
  exact mM_next_loop ok c0 hd (by omega) tried _ (40 - c) c N (by omega) (by omega)
/-- what a person's thing adds to what it may come to -/
def whoBit (who : Int32) (h : Nat → Nat) : Int32 := if who = -9 then 0 else if h who.toNatClampNeg = 6 then 0 else Int32.ofNat (2 ^ h who.toNatClampNeg)
def leafM (d : Nat) (a : Int32 × Int32 × Int32 × Int32) : Int32 × Int32 × Int32 × Int32 := (if Int32.ofNat d ≤ a.1 then a.1 else Int32.ofNat d, if a.2.1 ≤ Int32.ofNat d then a.2.1 else Int32.ofNat d, a.2.2.1 + 1, a.2.2.2)
def enterM (who : Int32) (h : Nat → Nat) (a : Int32 × Int32 × Int32 × Int32) : Int32 × Int32 × Int32 × Int32 := (a.1, a.2.1, a.2.2.1, a.2.2.2 ||| whoBit who h)
/-- what is left of a depth: from the code c on (j codes), fresh or not -/
def resM (who : Int32) (n f : Nat) (h k : Nat → Nat) (d : Nat) (fresh : Bool) (j c : Nat) (a : Int32 × Int32 × Int32 × Int32) : Int32 × Int32 × Int32 × Int32 :=
  if (fresh && (rst n h k j c).isEmpty) = true then leafM d a else (rst n h k j c).foldl (fun a x => dfs leafM (enterM who) n f (sH h x) (sK h k x) (d + 1) (enterM who (sH h x) a)) a
/-- how many turns the loop takes -/
def stp (n : Nat) : Nat → (Nat → Nat) → (Nat → Nat) → Nat
  | 0, _, _ => 1
  | f + 1, h, k => (rst n h k 40 0).foldr (fun x acc => acc + stp n f (sH h x) (sK h k x) + 1) 1
def stpL (n f : Nat) (h k : Nat → Nat) (j c : Nat) : Nat := (rst n h k j c).foldr (fun x acc => acc + stp n f (sH h x) (sK h k x) + 1) 1
theorem mM_runs_dfs {n : Nat} (hn : n ≤ 4) {who : Int32} (hw : who = -9 ∨ ∃ p, p < n ∧ who = Int32.ofNat p) {F : Nat} (hF : 60 ≤ F) (kk : Int32 → Int32 → Int32 → Int32 → Int32 → (Nat → Int32) → (Nat → Int32) → (Nat → Int32) → Option (Int32 × Int32 × Int32 × Int32 × (Nat → Int32) × (Nat → Int32) × (Nat → Int32))) :
    ∀ (f : Nat) (h k : Nat → Nat) (d : Nat), pOk n h k → remS k n < 2 * (f + 1) → remS k n + 2 * d ≤ 24 → ∀ (j c : Nat), c + j = 40 → ∀ (fresh : Bool) (a : Int32 × Int32 × Int32 × Int32) (had holds tried : Nat → Int32), pM n h k had holds d → ((fresh = true ∧ tried d = -9 ∧ c = 0) ∨ (fresh = false ∧ 1 ≤ c ∧ tried d = Int32.ofNat (c - 1))) →
      ∃ (had' holds' tried' : Nat → Int32), (∀ N, fX11_goRuns_L59 (Int32.ofNat n) who F kk (N + stpL n f h k j c) (Int32.ofNat d) a.1 a.2.1 a.2.2.1 a.2.2.2 had holds tried = fX11_goRuns_L59 (Int32.ofNat n) who F kk N (Int32.ofNat d + (-1)) (resM who n f h k d fresh j c a).1 (resM who n f h k d fresh j c a).2.1 (resM who n f h k d fresh j c a).2.2.1 (resM who n f h k d fresh j c a).2.2.2 had' holds' tried') ∧ (∀ q, q < 4 * d + 4 → had' q = had q ∧ holds' q = holds q) ∧ ∀ q, q < d → tried' q = tried q := by
  intro f
  induction f using Nat.strongRecOn with
  | ind f ihf =>
  intro h k d ok hr hd j
  induction j using Nat.strongRecOn with
  | ind j ihj =>
  intro c hjc fresh a had holds tried pm ht
  have hd13 : d < 13 := by omega
  have hnext := mM_next (tried := tried) (c := c) ok pm hd13 hF (by omega) (by
    rcases ht with ⟨-, h1, h2⟩ | ⟨-, h1, h2⟩
    · exact Or.inl ⟨h1, h2⟩
    · exact Or.inr ⟨h1, h2⟩)
  rw [show 40 - c = j by omega] at hnext
  -- one turn of the loop, down to the join
  have hturn : ∀ M, fX11_goRuns_L59 (Int32.ofNat n) who F kk (M + 1) (Int32.ofNat d) a.1 a.2.1 a.2.2.1 a.2.2.2 had holds tried = fX11_goRuns_J79 (Int32.ofNat n) who (fX11_goRuns_L59 (Int32.ofNat n) who F kk M) F (Int32.ofNat d) a.1 a.2.1 a.2.2.1 a.2.2.2 had holds tried (b01 fresh) := by
    intro M
    show fX11_goRuns_B59 _ _ _ _ (fX11_goRuns_L59 (Int32.ofNat n) who F kk M) _ _ _ _ _ _ _ _ = _
    unfold fX11_goRuns_B59
    rw [if_neg (z_nn (by omega)), z_chk (show d < 14 by omega) (by omega), z_ix (by omega)]
    rcases ht with ⟨h0, h1, h2⟩ | ⟨h0, h1, h2⟩
    · rw [h1, if_pos rfl, h0]; rfl
    · rw [h2, if_neg (show ¬ Int32.ofNat (c - 1) = -9 from fun q => by
        have := congrArg Int32.toInt q
        rw [z_toInt (by omega)] at this
        exact absurd this (by rw [show (-9 : Int32).toInt = -9 from rfl]; omega)), h0]; rfl
  rcases hnext with ⟨er, en⟩ | ⟨x, hcx, hx, hok, er, had1, holds1, en, pm1, keep1⟩
  · refine ⟨had, holds, tried, fun N => ?_, fun q _ => ⟨rfl, rfl⟩, fun q _ => rfl⟩
    rw [show stpL n f h k j c = 1 from by unfold stpL; rw [er]; rfl, hturn N]
    unfold fX11_goRuns_J79
    rw [en]
    simp only [nh_b4]
    rw [if_pos trivial]
    unfold resM
    rw [er]
    cases fresh with
    | false =>
      rw [if_pos (by decide)]
      rfl
    | true =>
      rw [if_neg (by decide)]
      simp only [nh_let, leafM, List.isEmpty_nil, Bool.and_self, if_true]
      by_cases g1 : Int32.ofNat d ≤ a.1 <;> by_cases g2 : a.2.1 ≤ Int32.ofNat d <;> simp only [g1, g2, if_true, if_false]
  · obtain ⟨o1, o2, o3⟩ := okc_parts hok
    have hxi : x / 10 < n := by omega
    have hrem := rem_sw ok hxi o2 o3
    obtain ⟨f, rfl⟩ : ∃ g, f = g + 1 := ⟨f - 1, by have : remS (swK h k (x / 10) (x % 10)) n + 2 = remS k n := hrem; omega⟩
    have okx : pOk n (sH h x) (sK h k x) := pOk_sw ok hxi o2 o3
    have hremx : remS (sK h k x) n + 2 = remS k n := hrem
    obtain ⟨had2, holds2, tried2, e2, k2, t2⟩ := ihf f (by omega) (sH h x) (sK h k x) (d + 1) okx (by omega) (by omega) 40 0 rfl true (enterM who (sH h x) a) had1 holds1 (upd (upd tried d (Int32.ofNat x)) (d + 1) (-9)) pm1 (Or.inl ⟨rfl, upd_same, rfl⟩)
    have pm2 : pM n h k had2 holds2 d := fun p hp => by
      rw [(k2 (4 * d + p) (by omega)).1, (k2 (4 * d + p) (by omega)).2, (keep1 (4 * d + p) (by omega)).1, (keep1 (4 * d + p) (by omega)).2]
      exact pm p hp
    have td : tried2 d = Int32.ofNat (x + 1 - 1) := by
      rw [t2 d (by omega), upd_ne (by omega), upd_same]; rfl
    obtain ⟨had3, holds3, tried3, e3, k3, t3⟩ := ihj (39 - x) (by omega) (x + 1) (by omega) false (resM who n f (sH h x) (sK h k x) (d + 1) true 40 0 (enterM who (sH h x) a)) had2 holds2 tried2 pm2 (Or.inr ⟨rfl, by omega, td⟩)
    have eC : stpL n (f + 1) h k j c = stpL n (f + 1) h k (39 - x) (x + 1) + stpL n f (sH h x) (sK h k x) 40 0 + 1 := by
      unfold stpL; rw [er, List.foldr_cons]; rfl
    generalize stpL n (f + 1) h k (39 - x) (x + 1) = C2 at eC e3
    generalize stpL n f (sH h x) (sK h k x) 40 0 = C1 at eC e2
    refine ⟨had3, holds3, tried3, fun N => ?_, fun q hq => ?_, fun q hq => ?_⟩
    · rw [eC, show N + (C2 + C1 + 1) = (N + C2 + C1) + 1 by omega, hturn]
      unfold fX11_goRuns_J79
      rw [en]
      simp only [nh_b4]
      rw [if_neg (by decide)]
      simp only [nh_let, z_succ]
      rw [z_chk (show d + 1 < 14 by omega) (by omega), z_ix (by omega)]
      have hcome : (if who = -9 then fX11_goRuns_L59 (Int32.ofNat n) who F kk (N + C2 + C1) (Int32.ofNat (d + 1)) a.1 a.2.1 a.2.2.1 (a.2.2.2 ||| 0) had1 holds1 (upd (upd tried d (Int32.ofNat x)) (d + 1) (-9)) else nh_chk (nh_in (4 * Int32.ofNat (d + 1) + who) 56) (if holds1 (4 * Int32.ofNat (d + 1) + who).toNatClampNeg = 6 then fX11_goRuns_L59 (Int32.ofNat n) who F kk (N + C2 + C1) (Int32.ofNat (d + 1)) a.1 a.2.1 a.2.2.1 (a.2.2.2 ||| 0) had1 holds1 (upd (upd tried d (Int32.ofNat x)) (d + 1) (-9)) else nh_chk (nh_in (4 * Int32.ofNat (d + 1) + who) 56) (fX11_goRuns_L59 (Int32.ofNat n) who F kk (N + C2 + C1) (Int32.ofNat (d + 1)) a.1 a.2.1 a.2.2.1 (a.2.2.2 ||| 1 <<< (holds1 (4 * Int32.ofNat (d + 1) + who).toNatClampNeg &&& 31)) had1 holds1 (upd (upd tried d (Int32.ofNat x)) (d + 1) (-9))))) = fX11_goRuns_L59 (Int32.ofNat n) who F kk (N + C2 + C1) (Int32.ofNat (d + 1)) (enterM who (sH h x) a).1 (enterM who (sH h x) a).2.1 (enterM who (sH h x) a).2.2.1 (enterM who (sH h x) a).2.2.2 had1 holds1 (upd (upd tried d (Int32.ofNat x)) (d + 1) (-9)) := by
        unfold enterM whoBit
        rcases hw with rfl | ⟨p, hp, rfl⟩
        · rw [if_pos rfl, if_pos rfl]
        · have hne : ¬ Int32.ofNat p = -9 := fun q => by
            have := congrArg Int32.toInt q
            rw [z_toInt (by omega)] at this
            exact absurd this (by rw [show (-9 : Int32).toInt = -9 from rfl]; omega)
          have v := (okx.2 p hp).1
          rw [if_neg hne, if_neg hne, z_row, z_chk (show 4 * (d + 1) + p < 56 by omega) (by omega), z_ix (by omega), z_ix (by omega), (pm1 p hp).1]
          by_cases g6 : sH h x p = 6
          · rw [if_pos ((z_eq6 v).mpr g6), if_pos g6]
          · rw [if_neg (fun q => g6 ((z_eq6 v).mp q)), if_neg g6, z_chk (show 4 * (d + 1) + p < 56 by omega) (by omega), z_bit _ (by omega)]
      rw [hcome, e2, show Int32.ofNat (d + 1) + -1 = Int32.ofNat d from by rw [← z_succ, Int32.add_assoc]; simp, e3]
      have ee : resM who n (f + 1) h k d fresh j c a = resM who n (f + 1) h k d false (39 - x) (x + 1) (resM who n f (sH h x) (sK h k x) (d + 1) true 40 0 (enterM who (sH h x) a)) := by
        unfold resM
        rw [er]
        rw [if_neg (by cases fresh <;> simp), if_neg (show ¬ (false && _) = true by simp)]
        rw [List.foldl_cons]
        congr 1
      rw [ee]
    · rw [(k3 q hq).1, (k3 q hq).2, (k2 q (by omega)).1, (k2 q (by omega)).2]
      exact keep1 q (by omega)
    · rw [t3 q hq, t2 q (by omega), upd_ne (by omega), upd_ne (by omega)]
