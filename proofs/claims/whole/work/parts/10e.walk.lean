/-! the class's walk of all runs, and that both tell the same -/
def cl : Nat → List Nat
  | 0 => []
  | 1 => []
  | 2 => [1]
  | 3 => [1, 2, 12]
  | _ => [1, 2, 3, 12, 13, 23]
theorem rst_filter {n : Nat} {h k : Nat → Nat} : ∀ j c, rst n h k j c = (List.range' c j).filter (okc n h k)
  | 0, c => rfl
  | j + 1, c => by
    rw [List.range'_succ, List.filter_cons]
    show (if okc n h k c = true then c :: rst n h k j (c + 1) else rst n h k j (c + 1)) = _
    rw [rst_filter j (c + 1)]
theorem rst_cl {n : Nat} (hn : n ≤ 4) {h k : Nat → Nat} : rst n h k 40 0 = (cl n).filter (fun c => canB h k (c / 10) (c % 10)) := by
  have e : cl n = (List.range' 0 40).filter (fun c => decide (c / 10 < c % 10) && decide (c % 10 < n)) := by
    rcases (show n = 0 ∨ n = 1 ∨ n = 2 ∨ n = 3 ∨ n = 4 by omega) with rfl | rfl | rfl | rfl | rfl <;> decide +kernel
  rw [rst_filter, e, List.filter_filter]
  congr 1
  funext c
  unfold okc
  rw [Bool.and_comm]
theorem nest_cl {β : Type} {n : Nat} (hn : n ≤ 4) (st : Nat → β → Nat → β) (s0 : β) : (List.range' 0 n).foldl (fun s i => (List.range' (i + 1) (n - (i + 1))).foldl (st i) s) s0 = (cl n).foldl (fun s c => st (c / 10) s (c % 10)) s0 := by
  rcases (show n = 0 ∨ n = 1 ∨ n = 2 ∨ n = 3 ∨ n = 4 by omega) with rfl | rfl | rfl | rfl | rfl <;> rfl
theorem fold_flag {α : Type} (S : Nat → α → α) : ∀ (l : List Nat) (e : Bool) (a : α), l.foldl (fun (s : Bool × α) c => (false, S c s.2)) (e, a) = (e && l.isEmpty, l.foldl (fun a c => S c a) a)
  | [], e, a => by simp
  | c :: l, e, a => by
    rw [List.foldl_cons, fold_flag S l, List.foldl_cons]; simp
/-- all pairs in order, those that may: the flag is left only if there is none -/
theorem walk_fold {α : Type} {n : Nat} (hn : n ≤ 4) {h k : Nat → Nat} (S : Nat → Nat → α → α) (a : α) : (List.range' 0 n).foldl (fun s i => (List.range' (i + 1) (n - (i + 1))).foldl (fun (s : Bool × α) j => if canB h k i j = true then (false, S i j s.2) else s) s) (true, a) = ((rst n h k 40 0).isEmpty, (rst n h k 40 0).foldl (fun a c => S (c / 10) (c % 10) a) a) := by
  rw [nest_cl hn (fun i (s : Bool × α) j => if canB h k i j = true then (false, S i j s.2) else s), rst_cl hn]
  rw [← List.foldl_filter (f := fun (s : Bool × α) c => (false, S (c / 10) (c % 10) s.2)) (p := fun c => canB h k (c / 10) (c % 10))]
  rw [fold_flag (fun c a => S (c / 10) (c % 10) a)]; simp
def leafC (d : Nat) (a : Int32 × Int32 × Int32) : Int32 × Int32 × Int32 := (if a.1 < Int32.ofNat d then Int32.ofNat d else a.1, if Int32.ofNat d < a.2.1 then Int32.ofNat d else a.2.1, a.2.2 + 1)
theorem aC_walk_in {n : Nat} {h k : Nat → Nat} {hd kn : Nat → Int32} (ok : pOk n h k) (c : pC n h k hd kn) {made : Nat} (hm : ∀ i j, i < n → j < n → canB h k i j = true → made < 12) (hmd : made < 100) (S : Nat → Nat → Int32 × Int32 × Int32 → Int32 × Int32 × Int32) (rc : Int32 → Int32 → Int32 → Int32 → (Nat → Int32) → (Nat → Int32) → Int32 → Option (Int32 × Int32 × Int32 × (Nat → Int32) × (Nat → Int32)))
    (hrc : ∀ i j hd' kn' a, i < n → j < n → canB h k i j = true → pC n (swH h i j) (swK h k i j) hd' kn' → rc a.1 a.2.1 a.2.2 (Int32.ofNat n) hd' kn' (Int32.ofNat (made + 1)) = some ((S i j a).1, (S i j a).2.1, (S i j a).2.2, hd', kn')) {i : Nat} (hi : i < n)
    (kk : Int32 → Int32 → Int32 → Int32 → Int32 → (Nat → Int32) → (Nat → Int32) → Option (Int32 × Int32 × Int32 × (Nat → Int32) × (Nat → Int32))) : ∀ (jn j N : Nat) (s : Bool × Int32 × Int32 × Int32), j + jn = n → jn < N →
      ∃ s', s' = (List.range' j jn).foldl (fun (s : Bool × Int32 × Int32 × Int32) j => if canB h k i j = true then (false, S i j s.2) else s) s ∧ fX4_walk_L20 (Int32.ofNat n) (Int32.ofNat made) rc (Int32.ofNat i) kk N (b01 s.1) (Int32.ofNat j) s.2.1 s.2.2.1 s.2.2.2 hd kn = kk (b01 s'.1) (Int32.ofNat n) s'.2.1 s'.2.2.1 s'.2.2.2 hd kn := by
  have hn := ok.1
  intro jn
  induction jn with
  | zero =>
    intro j N s hj hN
    obtain ⟨N, rfl⟩ : ∃ M, N = M + 1 := ⟨N - 1, by omega⟩
    refine ⟨s, rfl, ?_⟩
    show fX4_walk_B20 _ _ _ _ _ _ _ _ _ _ _ _ _ = _
    unfold fX4_walk_B20
    rw [show j = n by omega, if_pos (Int32.le_refl _)]
  | succ jn ih =>
    intro j N s hj hN
    obtain ⟨N, rfl⟩ : ∃ M, N = M + 1 := ⟨N - 1, by omega⟩
    rw [List.range'_succ, List.foldl_cons]
    obtain ⟨s', e1, e2⟩ := ih (j + 1) N (if canB h k i j = true then (false, S i j s.2) else s) (by omega) (by omega)
    refine ⟨s', e1, ?_⟩
    rw [← e2]
    show fX4_walk_B20 _ _ _ _ _ _ _ _ _ _ _ _ _ = _
    unfold fX4_walk_B20
    rw [if_neg (fun q => absurd ((z_le (by omega) (by omega)).mp q) (by omega))]
    simp only [nh_let, z_succ]
    by_cases hc : canB h k i j = true
    · have m12 := hm i j hi (by omega) hc
      rw [if_neg (show ¬ (12 : Int32) ≤ Int32.ofNat made from fun q => absurd ((z_le (a := 12) (b := made) (by omega) (by omega)).mp q) (by omega)), aC_can ok c hi (show j < n by omega), hc]
      obtain ⟨hd', kn', w1, w2, w3, w4⟩ := aC_swap ok c hi (show j < n by omega) hc
      simp only [nh_b1]
      rw [if_neg (show ¬ b01 true = 0 by decide), w1]
      simp only [nh_b2]
      rw [hrc i j hd' kn' s.2 hi (by omega) hc w2]
      simp only [nh_b5]
      rw [w4]
      rfl
    · rw [aC_can ok c hi (show j < n by omega), show canB h k i j = false by simpa using hc]
      simp only [nh_b1]
      rw [if_pos (show b01 false = 0 from rfl), if_neg (show ¬ false = true by decide)]
      split <;> rfl
theorem aC_walk_out {n : Nat} {h k : Nat → Nat} {hd kn : Nat → Int32} (ok : pOk n h k) (c : pC n h k hd kn) {made : Nat} (hm : ∀ i j, i < n → j < n → canB h k i j = true → made < 12) (hmd : made < 100) (S : Nat → Nat → Int32 × Int32 × Int32 → Int32 × Int32 × Int32) (rc : Int32 → Int32 → Int32 → Int32 → (Nat → Int32) → (Nat → Int32) → Int32 → Option (Int32 × Int32 × Int32 × (Nat → Int32) × (Nat → Int32)))
    (hrc : ∀ i j hd' kn' a, i < n → j < n → canB h k i j = true → pC n (swH h i j) (swK h k i j) hd' kn' → rc a.1 a.2.1 a.2.2 (Int32.ofNat n) hd' kn' (Int32.ofNat (made + 1)) = some ((S i j a).1, (S i j a).2.1, (S i j a).2.2, hd', kn')) {F : Nat} (hF : 6 ≤ F)
    (kk : Int32 → Int32 → Int32 → Int32 → Int32 → (Nat → Int32) → (Nat → Int32) → Option (Int32 × Int32 × Int32 × (Nat → Int32) × (Nat → Int32))) : ∀ (jn i N : Nat) (s : Bool × Int32 × Int32 × Int32), i + jn = n → jn < N →
      ∃ s', s' = (List.range' i jn).foldl (fun s i => (List.range' (i + 1) (n - (i + 1))).foldl (fun (s : Bool × Int32 × Int32 × Int32) j => if canB h k i j = true then (false, S i j s.2) else s) s) s ∧ fX4_walk_L5 (Int32.ofNat n) (Int32.ofNat made) rc F kk N (b01 s.1) (Int32.ofNat i) s.2.1 s.2.2.1 s.2.2.2 hd kn = kk (b01 s'.1) (Int32.ofNat n) s'.2.1 s'.2.2.1 s'.2.2.2 hd kn := by
  have hn := ok.1
  intro jn
  induction jn with
  | zero =>
    intro i N s hj hN
    obtain ⟨N, rfl⟩ : ∃ M, N = M + 1 := ⟨N - 1, by omega⟩
    refine ⟨s, rfl, ?_⟩
    show fX4_walk_B5 _ _ _ _ _ _ _ _ _ _ _ _ _ = _
    unfold fX4_walk_B5
    rw [show i = n by omega, if_pos (Int32.le_refl _)]
  | succ jn ih =>
    intro i N s hj hN
    obtain ⟨N, rfl⟩ : ∃ M, N = M + 1 := ⟨N - 1, by omega⟩
    rw [List.range'_succ, List.foldl_cons]
    obtain ⟨s1, f1, f2⟩ := aC_walk_in ok c hm hmd S rc hrc (show i < n by omega) (fun x3_24 x5_25 a0_most_26 a0_least_27 a0_number_28 a1_held_29 a1_known_30 => nh_let (α := Int32) (Int32.ofNat i + 1) (fun x4_51 => (fX4_walk_L5 (Int32.ofNat n) (Int32.ofNat made) rc F kk N) x3_24 x4_51 a0_most_26 a0_least_27 a0_number_28 a1_held_29 a1_known_30)) (n - (i + 1)) (i + 1) F s (by omega) (by omega)
    obtain ⟨s', e1, e2⟩ := ih (i + 1) N s1 (by omega) (by omega)
    refine ⟨s', by rw [e1, f1], ?_⟩
    rw [← e2]
    show fX4_walk_B5 _ _ _ _ _ _ _ _ _ _ _ _ _ = _
    unfold fX4_walk_B5
    rw [if_neg (fun q => absurd ((z_le (by omega) (by omega)).mp q) (by omega))]
    simp only [nh_let, z_succ] at f2 ⊢
    rw [f2]
theorem aC_walk {n : Nat} {F : Nat} (hF : 6 ≤ F) : ∀ (f : Nat) (h k : Nat → Nat) (hd kn : Nat → Int32) (made : Nat) (a : Int32 × Int32 × Int32), pOk n h k → pC n h k hd kn → remS k n < 2 * f → remS k n + 2 * made ≤ 24 → fX4_walk F f a.1 a.2.1 a.2.2 (Int32.ofNat n) hd kn (Int32.ofNat made) = some ((dfs leafC (fun _ a => a) n f h k made a).1, (dfs leafC (fun _ a => a) n f h k made a).2.1, (dfs leafC (fun _ a => a) n f h k made a).2.2, hd, kn) := by
  intro f
  induction f with
  | zero => intro h k hd kn made a ok c hr; omega
  | succ f ih =>
    intro h k hd kn made a ok c hr hmd
    have hn := ok.1
    show fX4_walk_R F (fX4_walk F f) _ _ _ _ _ _ _ = _
    unfold fX4_walk_R
    obtain ⟨s', e1, e2⟩ := aC_walk_out ok c (made := made) (fun i j hi hj hc => by have := rem_sw ok hi hj hc; omega) (by omega) (fun i j a => dfs leafC (fun _ a => a) n f (swH h i j) (swK h k i j) (made + 1) a) (fX4_walk F f) (fun i j hd' kn' a hi hj hc c' => ih _ _ _ _ _ a (pOk_sw ok hi hj hc) c' (by have := rem_sw ok hi hj hc; omega) (by have := rem_sw ok hi hj hc; omega)) hF (fun x3_8 x4_9 a0_most_10 a0_least_11 a0_number_12 a1_held_13 a1_known_14 => (if x3_8 = 0 then some (a0_most_10, a0_least_11, a0_number_12, a1_held_13, a1_known_14)
 else nh_b3 (fX4_noteEnd a0_most_10 a0_least_11 a0_number_12 (Int32.ofNat made)) (fun a0_most_53 a0_least_54 a0_number_55 => some (a0_most_53, a0_least_54, a0_number_55, a1_held_13, a1_known_14)))) n 0 F (true, a) (by omega) (by omega)
    rw [walk_fold hn] at e1
    have e3 : fX4_walk_L5 (Int32.ofNat n) (Int32.ofNat made) (fX4_walk F f) F (fun x3_8 x4_9 a0_most_10 a0_least_11 a0_number_12 a1_held_13 a1_known_14 => (if x3_8 = 0 then some (a0_most_10, a0_least_11, a0_number_12, a1_held_13, a1_known_14)
 else nh_b3 (fX4_noteEnd a0_most_10 a0_least_11 a0_number_12 (Int32.ofNat made)) (fun a0_most_53 a0_least_54 a0_number_55 => some (a0_most_53, a0_least_54, a0_number_55, a1_held_13, a1_known_14)))) F 1 0 a.1 a.2.1 a.2.2 hd kn = _ := e2
    rw [e3, e1]
    show _ = some ((if (rst n h k 40 0).isEmpty = true then leafC made a else _).1, (if (rst n h k 40 0).isEmpty = true then leafC made a else _).2.1, (if (rst n h k 40 0).isEmpty = true then leafC made a else _).2.2, hd, kn)
    cases he : (rst n h k 40 0).isEmpty with
    | true =>
      have hnil : rst n h k 40 0 = [] := by simpa using he
      rw [hnil]
      rfl
    | false => rfl
