/-! rings: rows of 'from whom', in order -/
def rws (n : Nat) : Nat → List (List Nat)
  | 0 => [[]]
  | m + 1 => (List.range' 0 n).flatMap (fun i => (rws n m).map (fun l => i :: l))
/-- what sorts are worth, as numbers: the class's rows and the reference's hold them -/
def wOk (n : Nat) (w : Nat → Nat) (wo : Nat → Int32) : Prop := ∀ p s, p < n → s < 6 → wo (6 * p + s) = Int32.ofNat (w (6 * p + s)) ∧ w (6 * p + s) ≤ 9
def okR (h k w : Nat → Nat) (p q t : Nat) : Bool := !t.testBit q && (decide (q = p) || (decide (h p < 6) && decide (h q < 6) && !(k p).testBit (h q) && decide (w (6 * p + h p) < w (6 * p + h q))))
def gnR (h w : Nat → Nat) (p q g : Nat) : Nat := if q = p then g else g + (w (6 * p + h q) - w (6 * p + h p))
def chn (h k w : Nat → Nat) : List Nat → Nat → Nat → Nat → Option Nat
  | [], _, _, g => some g
  | q :: l, p, t, g => if okR h k w p q t = true then chn h k w l (p + 1) (t ||| 2 ^ q) (gnR h w p q g) else none
def mvR : List Nat → Nat → Nat
  | [], _ => 0
  | q :: l, p => (if q = p then 0 else 1) + mvR l (p + 1)
def cmpA (acc : Option (Nat × Nat × List Nat)) (g m : Nat) (l : List Nat) : Option (Nat × Nat × List Nat) := match acc with
  | none => some (g, m, l)
  | some a => if a.1 < g ∨ (g = a.1 ∧ m < a.2.1) then some (g, m, l) else some a
def stepR (h k w : Nat → Nat) (pre : List Nat) (p t g : Nat) (acc : Option (Nat × Nat × List Nat)) (l : List Nat) : Option (Nat × Nat × List Nat) := match chn h k w l p t g with
  | none => acc
  | some g' => cmpA acc g' (mvR (pre ++ l) 0) (pre ++ l)
/-- what the class holds of the best ones -/
def rA (n : Nat) (acc : Option (Nat × Nat × List Nat)) (bg bt : Int32) (bf : Nat → Int32) : Prop := match acc with
  | none => bg = -9 ∧ bt = 0
  | some a => bg = Int32.ofNat a.1 ∧ bt = Int32.ofNat a.2.1 ∧ a.1 ≤ 100 ∧ a.2.1 ≤ 100 ∧ ∀ p, p < n → bf p = Int32.ofNat (a.2.2.getD p 0)
theorem aC_worth {n : Nat} (hn : n ≤ 4) {w : Nat → Nat} {wo : Nat → Int32} (hw : wOk n w wo) {p s : Nat} (hp : p < n) (hs : s ≤ 6) : fX1_worthOf (Int32.ofNat n) wo (Int32.ofNat p) (cH s) = some (Int32.ofNat (if s = 6 then 0 else w (6 * p + s))) := by
  unfold fX1_worthOf
  rw [aC_has1 hn hp, if_neg (by decide)]
  by_cases h6 : s = 6
  · subst h6
    rw [if_pos (show fX10_isSort (cH 6) = 0 from by decide), if_pos rfl]; rfl
  · rw [cH_lt (show s < 6 by omega), aC_isSort (by omega), decide_eq_true (show s < 6 by omega), if_neg (by decide), if_neg h6]
    rw [show (6 : Int32) = Int32.ofNat 6 from rfl, z_mul, z_add, z_chk (show p * 6 + s < 24 by omega) (by omega), z_ix (by omega), show p * 6 + s = 6 * p + s by omega, (hw p s hp (by omega)).1]
theorem cH_ne {s : Nat} (hs : s ≤ 6) : (cH s = -9) ↔ s = 6 := by
  have : ∀ s : Nat, s < 7 → ((cH s = -9) ↔ s = 6) := by decide +kernel
  exact this s (by omega)
theorem aC_better {n : Nat} {h k w : Nat → Nat} {hd kn wo : Nat → Int32} (ok : pOk n h k) (c : pC n h k hd kn) (hw : wOk n w wo) {p q : Nat} (hp : p < n) (hq : q < n) : fX3_isBetter (Int32.ofNat n) hd kn wo (Int32.ofNat p) (Int32.ofNat q) = some (b01 (decide (h p < 6) && decide (h q < 6) && !(k p).testBit (h q) && decide (w (6 * p + h p) < w (6 * p + h q)))) := by
  have hn := ok.1
  have vp := (ok.2 p hp).1
  have vq := (ok.2 q hq).1
  unfold fX3_isBetter
  simp only [z_chk (show p < 4 by omega) (show 4 < 2147483648 by omega), z_chk (show q < 4 by omega) (show 4 < 2147483648 by omega), nh_let, z_ix (show p < 2147483648 by omega), z_ix (show q < 2147483648 by omega), (c p hp).1, (c q hq).1]
  by_cases a : h p = 6
  · rw [if_pos ((cH_ne vp).mpr a), decide_eq_false (show ¬ h p < 6 by omega)]; rfl
  · rw [if_neg (fun g => a ((cH_ne vp).mp g)), aC_isNew ok c hp vq, decide_eq_true (show h p < 6 by omega)]
    simp only [nh_b1]
    cases g : (decide (h q < 6) && !(k p).testBit (h q)) with
    | false =>
      rw [if_pos (show b01 false = 0 from rfl), Bool.true_and, g, Bool.false_and]; rfl
    | true =>
      rw [if_neg (show ¬ b01 true = 0 by decide), Bool.true_and, g, Bool.true_and]
      simp only [Bool.and_eq_true, decide_eq_true_eq] at g
      rw [aC_worth hn hw hp vq, aC_worth hn hw hp vp, if_neg (by omega), if_neg a]
      simp only [nh_b1]
      have b1 := (hw p (h q) hp (by omega)).2
      have b2 := (hw p (h p) hp (by omega)).2
      by_cases lt : w (6 * p + h p) < w (6 * p + h q)
      · rw [if_neg (fun z => absurd ((z_le (by omega) (by omega)).mp z) (by omega)), decide_eq_true lt]; rfl
      · rw [if_pos ((z_le (by omega) (by omega)).mpr (by omega)), decide_eq_false lt]; rfl
/-- the movers of a row that stands in 'from' -/
theorem takers_loop {n : Nat} (hn : n ≤ 4) {fr : Nat → Int32} (kk : Int32 → Int32 → Option (Int32 × Int32 × (Nat → Int32))) : ∀ (l : List Nat) (p N a : Nat), p + l.length = n → l.length < N → a ≤ p → (∀ i, i < l.length → fr (p + i) = Int32.ofNat (l.getD i 0) ∧ l.getD i 0 < 100) → fX3_compare_L5 fr (Int32.ofNat n) kk N (Int32.ofNat a) (Int32.ofNat p) = kk (Int32.ofNat (a + mvR l p)) (Int32.ofNat n) := by
  intro l
  induction l with
  | nil =>
    intro p N a hp hN ha hf
    obtain ⟨N, rfl⟩ : ∃ M, N = M + 1 := ⟨N - 1, by simp at hN; omega⟩
    show fX3_compare_B5 _ _ _ _ _ _ = _
    unfold fX3_compare_B5
    rw [show p = n by simpa using hp, if_pos (Int32.le_refl _)]; rfl
  | cons q l ih =>
    intro p N a hp hN ha hf
    simp only [List.length_cons] at hp hN hf
    obtain ⟨N, rfl⟩ : ∃ M, N = M + 1 := ⟨N - 1, by omega⟩
    have h0 := hf 0 (by omega)
    simp only [Nat.add_zero, List.getD_cons_zero] at h0
    show fX3_compare_B5 _ _ _ _ _ _ = _
    unfold fX3_compare_B5
    rw [if_neg (fun z => absurd ((z_le (by omega) (by omega)).mp z) (by omega)), z_chk (show p < 4 by omega) (by omega), z_ix (by omega), h0.1]
    simp only [nh_let, z_succ]
    have hf' : ∀ i, i < l.length → fr (p + 1 + i) = Int32.ofNat (l.getD i 0) ∧ l.getD i 0 < 100 := fun i hi => by
      have := hf (i + 1) (by omega)
      rw [List.getD_cons_succ, show p + (i + 1) = p + 1 + i by omega] at this
      exact this
    by_cases e : q = p
    · rw [if_pos (by rw [e]), ih (p + 1) N a (by omega) (by omega) (by omega) hf']
      show _ = kk (Int32.ofNat (a + ((if q = p then 0 else 1) + mvR l (p + 1)))) _
      rw [if_pos e, Nat.zero_add]
    · rw [if_neg (fun z => e ((z_eq (by omega) (by omega)).mp z)), ih (p + 1) N (a + 1) (by omega) (by omega) (by omega) hf']
      show _ = kk (Int32.ofNat (a + ((if q = p then 0 else 1) + mvR l (p + 1)))) _
      rw [if_neg e, ← Nat.add_assoc]
theorem mvR_le : ∀ (l : List Nat) (p : Nat), mvR l p ≤ l.length
  | [], _ => Nat.le_refl _
  | q :: l, p => by
    show (if q = p then 0 else 1) + mvR l (p + 1) ≤ l.length + 1
    have := mvR_le l (p + 1)
    split <;> omega
theorem z_cp4 : ∀ n : Nat, n < 5 → nh_cp 0 0 (Int32.ofNat n) 4 4 = true := by decide +kernel
theorem z_m9 {g : Nat} (hg : g < 2147483648) : (-9 : Int32) < Int32.ofNat g := by
  rw [Int32.lt_iff_toInt_lt, z_toInt hg, show (-9 : Int32).toInt = -9 from rfl]; omega
theorem z_free : ∀ t : Nat, t < 16 → ∀ i : Nat, i < 4 → ((Int32.ofNat t &&& ((1 : Int32) <<< (Int32.ofNat i &&& 31))) = 0 ↔ t.testBit i = false) := by decide +kernel
theorem or_lt16 : ∀ t : Nat, t < 16 → ∀ i : Nat, i < 4 → t ||| 2 ^ i < 16 := by decide +kernel
theorem va_cpy0 {f g : Nat → Int32} {n p : Nat} (hn : n < 2147483648) (hp : p < n) : va_cpy f g (Int32.toNatClampNeg (0 : Int32)) (Int32.toNatClampNeg (0 : Int32)) (Int32.toNatClampNeg (Int32.ofNat n)) p = f p := by
  rw [z_ix hn, show Int32.toNatClampNeg (0 : Int32) = 0 from rfl]
  unfold va_cpy
  rw [if_pos (by omega)]
  congr 1
  omega
theorem aC_compare {n : Nat} (hn : n ≤ 4) {F : Nat} (hF : 6 ≤ F) {g : Nat} (hg : g ≤ 100) {pre : List Nat} (hpre : pre.length = n) {fr : Nat → Int32} (hf : ∀ i, i < n → fr i = Int32.ofNat (pre.getD i 0) ∧ pre.getD i 0 < 100) {acc : Option (Nat × Nat × List Nat)} {bg bt : Int32} {bf : Nat → Int32} (ha : rA n acc bg bt bf) : ∃ bg' bt' bf', fX3_compare F bg bt bf fr (Int32.ofNat n) (Int32.ofNat g) = some (bg', bt', bf') ∧ rA n (cmpA acc g (mvR pre 0) pre) bg' bt' bf' := by
  unfold fX3_compare
  rw [show (0 : Int32) = Int32.ofNat 0 from rfl, takers_loop hn _ pre 0 F 0 (by omega) (by omega) (by omega) (fun i hi => by rw [Nat.zero_add]; exact hf i (by omega))]
  rw [Nat.zero_add]
  have hm := mvR_le pre 0
  have hnew : rA n (some (g, mvR pre 0, pre)) (Int32.ofNat g) (Int32.ofNat (mvR pre 0)) (va_cpy fr bf (Int32.toNatClampNeg (0 : Int32)) (Int32.toNatClampNeg (0 : Int32)) (Int32.toNatClampNeg (Int32.ofNat n))) :=
    ⟨rfl, rfl, hg, by show mvR pre 0 ≤ 100; omega, fun p hp => by rw [va_cpy0 (by omega) hp]; exact (hf p hp).1⟩
  have hcp := z_cp4 n (by omega)
  simp only [nh_let]
  cases acc with
  | none =>
    obtain ⟨rfl, rfl⟩ := ha
    rw [if_pos (z_m9 (by omega)), show nh_cp (Int32.ofNat 0) (Int32.ofNat 0) (Int32.ofNat n) 4 4 = true from hcp]
    exact ⟨_, _, _, rfl, hnew⟩
  | some a =>
    obtain ⟨rfl, rfl, h1, h2, h3⟩ := id ha
    unfold cmpA
    by_cases g1 : a.1 < g
    · rw [if_pos ((z_lt (by omega) (by omega)).mpr g1), show nh_cp (Int32.ofNat 0) (Int32.ofNat 0) (Int32.ofNat n) 4 4 = true from hcp]
      show ∃ bg' bt' bf', _ ∧ rA n (if a.1 < g ∨ _ then _ else _) bg' bt' bf'
      rw [if_pos (Or.inl g1)]
      exact ⟨_, _, _, rfl, hnew⟩
    · rw [if_neg (fun z => g1 ((z_lt (by omega) (by omega)).mp z))]
      show ∃ bg' bt' bf', _ ∧ rA n (if a.1 < g ∨ (g = a.1 ∧ mvR pre 0 < a.2.1) then _ else _) bg' bt' bf'
      by_cases g2 : g = a.1
      · rw [if_pos (by rw [g2])]
        by_cases g3 : mvR pre 0 < a.2.1
        · rw [if_neg (fun z => absurd ((z_le (by omega) (by omega)).mp z) (by omega)), if_pos (Or.inr ⟨g2, g3⟩), show nh_cp (Int32.ofNat 0) (Int32.ofNat 0) (Int32.ofNat n) 4 4 = true from hcp]
          exact ⟨_, _, _, rfl, hnew⟩
        · rw [if_pos ((z_le (by omega) (by omega)).mpr (by omega)), if_neg (by omega)]
          exact ⟨_, _, _, rfl, ha⟩
      · rw [if_neg (fun z => g2 ((z_eq (by omega) (by omega)).mp z)), if_neg (by omega)]
        exact ⟨_, _, _, rfl, ha⟩
theorem fold_const {α β : Type} {S : α → β → α} : ∀ {l : List β} (a : α), (∀ x ∈ l, ∀ a, S a x = a) → l.foldl S a = a
  | [], _, _ => rfl
  | x :: l, a, h => by
    rw [List.foldl_cons, h x List.mem_cons_self a]
    exact fold_const a (fun y hy => h y (List.mem_cons_of_mem _ hy))
theorem fold_cong2 {α β : Type} {S T : α → β → α} : ∀ {l : List β} (a : α), (∀ x ∈ l, ∀ a, S a x = T a x) → l.foldl S a = l.foldl T a
  | [], _, _ => rfl
  | x :: l, a, h => by
    rw [List.foldl_cons, List.foldl_cons, h x List.mem_cons_self a]
    exact fold_cong2 _ (fun y hy => h y (List.mem_cons_of_mem _ hy))
theorem stepR_cons {h k w : Nat → Nat} {pre : List Nat} {p t g i : Nat} {acc : Option (Nat × Nat × List Nat)} {l : List Nat} : stepR h k w pre p t g acc (i :: l) = if okR h k w p i t = true then stepR h k w (pre ++ [i]) (p + 1) (t ||| 2 ^ i) (gnR h w p i g) acc l else acc := by
  unfold stepR
  show (match (if okR h k w p i t = true then chn h k w l (p + 1) (t ||| 2 ^ i) (gnR h w p i g) else none) with | none => acc | some g' => cmpA acc g' (mvR (pre ++ i :: l) 0) (pre ++ i :: l)) = _
  by_cases e : okR h k w p i t = true
  · rw [if_pos e, if_pos e, List.append_assoc]; rfl
  · rw [if_neg e, if_neg e]
theorem aC_give {n : Nat} {h k w : Nat → Nat} {hd kn wo : Nat → Int32} (ok : pOk n h k) (c : pC n h k hd kn) (hw : wOk n w wo) {F : Nat} (hF : 6 ≤ F) : ∀ (m f p t g : Nat) (pre : List Nat) (acc : Option (Nat × Nat × List Nat)) (bg bt : Int32) (bf fr : Nat → Int32), p + m = n → m < f → t < 16 → g ≤ 9 * p → pre.length = p → (∀ i, i < p → fr i = Int32.ofNat (pre.getD i 0) ∧ pre.getD i 0 < 100) → rA n acc bg bt bf → ∃ bg' bt' bf' fr', fX3_give F f bg bt bf fr (Int32.ofNat n) hd kn wo (Int32.ofNat p) (Int32.ofNat t) (Int32.ofNat g) = some (bg', bt', bf', fr') ∧ rA n ((rws n m).foldl (stepR h k w pre p t g) acc) bg' bt' bf' ∧ ∀ i, i < p → fr' i = fr i := by
  have hn := ok.1
  intro m
  induction m with
  | zero =>
    intro f p t g pre acc bg bt bf fr hp hf ht hg hl hfr ha
    obtain ⟨f, rfl⟩ : ∃ x, f = x + 1 := ⟨f - 1, by omega⟩
    obtain ⟨bg', bt', bf', e1, e2⟩ := aC_compare (F := F) hn hF (show g ≤ 100 by omega) (show pre.length = n by omega) (fun i hi => hfr i (by omega)) ha
    refine ⟨bg', bt', bf', fr, ?_, ?_, fun i _ => rfl⟩
    · show fX3_give_R F (fX3_give F f) _ _ _ _ _ _ _ _ _ _ _ = _
      unfold fX3_give_R
      rw [show p = n by omega, if_neg (fun z => absurd ((z_lt (by omega) (by omega)).mp z) (by omega)), e1]
      rfl
    · show rA n (stepR h k w pre p t g acc []) bg' bt' bf'
      unfold stepR
      show rA n (cmpA acc g (mvR (pre ++ []) 0) (pre ++ [])) bg' bt' bf'
      rw [List.append_nil]
      exact e2
  | succ m ih =>
    intro f p t g pre acc bg bt bf fr hp hf ht hg hl hfr ha
    obtain ⟨f, rfl⟩ : ∃ x, f = x + 1 := ⟨f - 1, by omega⟩
    have hpn : p < n := by omega
    have vp := (ok.2 p hpn).1
    have loop : ∀ (jn i N : Nat) (acc : Option (Nat × Nat × List Nat)) (bg bt : Int32) (bf fr : Nat → Int32), i + jn = n → jn < N → (∀ i, i < p → fr i = Int32.ofNat (pre.getD i 0) ∧ pre.getD i 0 < 100) → rA n acc bg bt bf → ∃ bg' bt' bf' fr', fX3_give_L19 (Int32.ofNat n) hd kn wo (Int32.ofNat p) (Int32.ofNat t) (Int32.ofNat g) (fX3_give F f) (fun x5_7 a0_bestGain_8 a0_bestTakers_9 a0_bestFrom_10 a0_from_11 => some (a0_bestGain_8, a0_bestTakers_9, a0_bestFrom_10, a0_from_11)) N (Int32.ofNat i) bg bt bf fr = some (bg', bt', bf', fr') ∧ rA n ((List.range' i jn).foldl (fun acc i => (rws n m).foldl (fun acc l => stepR h k w pre p t g acc (i :: l)) acc) acc) bg' bt' bf' ∧ ∀ i, i < p → fr' i = fr i := by
      intro jn
      induction jn with
      | zero =>
        intro i N acc bg bt bf fr hi hN hfr ha
        obtain ⟨N, rfl⟩ : ∃ x, N = x + 1 := ⟨N - 1, by omega⟩
        refine ⟨bg, bt, bf, fr, ?_, ha, fun i _ => rfl⟩
        show fX3_give_B19 _ _ _ _ _ _ _ _ _ _ _ _ _ _ _ = _
        unfold fX3_give_B19
        rw [show i = n by omega, if_pos (Int32.le_refl _)]
      | succ jn ihj =>
        intro i N acc bg bt bf fr hi hN hfr ha
        obtain ⟨N, rfl⟩ : ∃ x, N = x + 1 := ⟨N - 1, by omega⟩
        have hin : i < n := by omega
        have vi := (ok.2 i hin).1
        -- not allowed: on to the next
        have hskip : okR h k w p i t = false → ∃ bg' bt' bf' fr', fX3_give_L19 (Int32.ofNat n) hd kn wo (Int32.ofNat p) (Int32.ofNat t) (Int32.ofNat g) (fX3_give F f) (fun x5_7 a0_bestGain_8 a0_bestTakers_9 a0_bestFrom_10 a0_from_11 => some (a0_bestGain_8, a0_bestTakers_9, a0_bestFrom_10, a0_from_11)) N (Int32.ofNat (i + 1)) bg bt bf fr = some (bg', bt', bf', fr') ∧ rA n ((List.range' i (jn + 1)).foldl (fun acc i => (rws n m).foldl (fun acc l => stepR h k w pre p t g acc (i :: l)) acc) acc) bg' bt' bf' ∧ ∀ i, i < p → fr' i = fr i := by
          intro hno
          obtain ⟨bg', bt', bf', fr', e1, e2, e3⟩ := ihj (i + 1) N acc bg bt bf fr (by omega) (by omega) hfr ha
          refine ⟨bg', bt', bf', fr', e1, ?_, e3⟩
          rw [List.range'_succ, List.foldl_cons, fold_const (S := fun acc l => stepR h k w pre p t g acc (i :: l)) acc (fun l _ a => by rw [stepR_cons, hno]; rfl)]
          exact e2
        -- allowed: deeper
        have hdeep : okR h k w p i t = true → ∃ bg' bt' bf' fr', fX3_give_J65 (Int32.ofNat n) hd kn wo (Int32.ofNat p) (Int32.ofNat t) (Int32.ofNat g) (fX3_give F f) (fX3_give_L19 (Int32.ofNat n) hd kn wo (Int32.ofNat p) (Int32.ofNat t) (Int32.ofNat g) (fX3_give F f) (fun x5_7 a0_bestGain_8 a0_bestTakers_9 a0_bestFrom_10 a0_from_11 => some (a0_bestGain_8, a0_bestTakers_9, a0_bestFrom_10, a0_from_11)) N) (Int32.ofNat i) 1 bg bt bf fr = some (bg', bt', bf', fr') ∧ rA n ((List.range' i (jn + 1)).foldl (fun acc i => (rws n m).foldl (fun acc l => stepR h k w pre p t g acc (i :: l)) acc) acc) bg' bt' bf' ∧ ∀ i, i < p → fr' i = fr i := by
          intro hyes
          have hgn : gnR h w p i g ≤ 9 * (p + 1) ∧ (Int32.ofNat g + Int32.ofNat (if h i = 6 then 0 else w (6 * p + h i))) - Int32.ofNat (if h p = 6 then 0 else w (6 * p + h p)) = Int32.ofNat (gnR h w p i g) := by
            unfold gnR
            by_cases e : i = p
            · subst e
              rw [if_pos rfl, z_add, z_sub (by omega)]
              exact ⟨by omega, by congr 1; omega⟩
            · rw [if_neg e]
              have hb := hyes
              unfold okR at hb
              rw [decide_eq_false e, Bool.false_or] at hb
              simp only [Bool.and_eq_true, decide_eq_true_eq] at hb
              have h1 := (hw p (h i) hpn (by omega)).2
              rw [if_neg (by omega), if_neg (by omega), z_add, z_sub (by omega)]
              exact ⟨by omega, by congr 1; omega⟩
          have hfr' : ∀ x, x < p + 1 → (upd fr p (Int32.ofNat i)) x = Int32.ofNat ((pre ++ [i]).getD x 0) ∧ (pre ++ [i]).getD x 0 < 100 := by
            intro x hx
            by_cases e : x = p
            · subst e
              rw [upd_same]
              have : (pre ++ [i]).getD x 0 = i := by simp [List.getD_eq_getElem?_getD, List.getElem?_append_right, hl]
              rw [this]; exact ⟨rfl, by omega⟩
            · rw [upd_ne e]
              have : (pre ++ [i]).getD x 0 = pre.getD x 0 := by
                simp only [List.getD_eq_getElem?_getD]
                rw [List.getElem?_append_left (by omega)]
              rw [this]; exact hfr x (by omega)
          obtain ⟨bg1, bt1, bf1, fr1, d1, d2, d3⟩ := ih f (p + 1) (t ||| 2 ^ i) (gnR h w p i g) (pre ++ [i]) acc bg bt bf (upd fr p (Int32.ofNat i)) (by omega) (by omega) (or_lt16 _ ht _ (by omega)) hgn.1 (by simp [hl]) hfr' ha
          have hfr1 : ∀ x, x < p → fr1 x = fr x := fun x hx => by rw [d3 x (by omega), upd_ne (by omega)]
          obtain ⟨bg', bt', bf', fr', e1, e2, e3⟩ := ihj (i + 1) N _ bg1 bt1 bf1 fr1 (by omega) (by omega) (fun x hx => by rw [hfr1 x hx]; exact hfr x hx) d2
          refine ⟨bg', bt', bf', fr', ?_, ?_, fun x hx => by rw [e3 x hx, hfr1 x hx]⟩
          · unfold fX3_give_J65
            simp only [z_chk (show p < 4 by omega) (show 4 < 2147483648 by omega), z_chk (show i < 4 by omega) (show 4 < 2147483648 by omega), nh_let, z_ix (show p < 2147483648 by omega), z_ix (show i < 2147483648 by omega), (c i hin).1, (c p hpn).1]
            rw [aC_worth hn hw hpn vi, aC_worth hn hw hpn vp]
            simp only [nh_b1]
            rw [hgn.2, z_or _ (by omega) _ (by omega), z_succ, d1]
            simp only [nh_b4]
            rw [z_succ]
            exact e1
          · rw [List.range'_succ, List.foldl_cons, fold_cong2 (S := fun acc l => stepR h k w pre p t g acc (i :: l)) (T := stepR h k w (pre ++ [i]) (p + 1) (t ||| 2 ^ i) (gnR h w p i g)) acc (fun l _ a => by rw [stepR_cons, if_pos hyes])]
            exact e2
        show ∃ bg' bt' bf' fr', fX3_give_B19 _ _ _ _ _ _ _ _ _ _ _ _ _ _ _ = _ ∧ _
        unfold fX3_give_B19
        rw [if_neg (fun z => absurd ((z_le (by omega) (by omega)).mp z) (by omega))]
        cases hfree : t.testBit i with
        | true =>
          rw [if_neg (fun z => by rw [(z_free _ ht _ (by omega)).mp z] at hfree; cases hfree)]
          unfold fX3_give_J42
          rw [if_pos rfl]
          simp only [nh_let, z_succ]
          exact hskip (by unfold okR; rw [hfree]; rfl)
        | false =>
          rw [if_pos ((z_free _ ht _ (by omega)).mpr hfree)]
          unfold fX3_give_J42
          rw [if_neg (by decide)]
          by_cases e : i = p
          · rw [if_pos (by rw [e])]
            exact hdeep (by unfold okR; rw [hfree, decide_eq_true e]; rfl)
          · rw [if_neg (fun z => e ((z_eq (by omega) (by omega)).mp z)), aC_better ok c hw hpn hin]
            simp only [nh_b1]
            cases hb : (decide (h p < 6) && decide (h i < 6) && !(k p).testBit (h i) && decide (w (6 * p + h p) < w (6 * p + h i))) with
            | false =>
              rw [if_pos (show b01 false = 0 from rfl)]
              simp only [nh_let, z_succ]
              exact hskip (by unfold okR; rw [hfree, decide_eq_false e, hb]; rfl)
            | true =>
              rw [if_neg (show ¬ b01 true = 0 by decide)]
              exact hdeep (by unfold okR; rw [hfree, decide_eq_false e, hb]; rfl)
    obtain ⟨bg', bt', bf', fr', e1, e2, e3⟩ := loop n 0 F acc bg bt bf fr (by omega) (by omega) hfr ha
    refine ⟨bg', bt', bf', fr', ?_, ?_, e3⟩
    · show fX3_give_R F (fX3_give F f) _ _ _ _ _ _ _ _ _ _ _ = _
      unfold fX3_give_R
      rw [if_pos ((z_lt (by omega) (by omega)).mpr hpn)]
      exact e1
    · show rA n (List.foldl (stepR h k w pre p t g) acc ((List.range' 0 n).flatMap (fun i => (rws n m).map (fun l => i :: l)))) bg' bt' bf'
      rw [List.foldl_flatMap]
      simp only [List.foldl_map]
      exact e2
