/-! people: what each holds (6: nothing) and has had (a set), as numbers; the class's rows tell them -/
def pOk (n : Nat) (h k : Nat → Nat) : Prop := n ≤ 4 ∧ ∀ p, p < n → h p ≤ 6 ∧ k p < 64 ∧ (h p < 6 → (k p).testBit (h p) = true)
def pC (n : Nat) (h k : Nat → Nat) (hd kn : Nat → Int32) : Prop := ∀ p, p < n → hd p = cH (h p) ∧ kn p = Int32.ofNat (k p)
def canB (h k : Nat → Nat) (i j : Nat) : Bool := decide (h i < 6) && decide (h j < 6) && !(k i).testBit (h j) && !(k j).testBit (h i)
def swH (h : Nat → Nat) (i j : Nat) : Nat → Nat := fun p => if p = i then h j else if p = j then h i else h p
def swK (h k : Nat → Nat) (i j : Nat) : Nat → Nat := fun p => if p = i then k i ||| 2 ^ h j else if p = j then k j ||| 2 ^ h i else k p
def b01 (b : Bool) : Int32 := if b = true then 1 else 0
theorem b01_eq (b : Bool) : (b01 b = 0) ↔ b = false := by cases b <;> decide
theorem aC_has {n p : Nat} (hn : n ≤ 4) (hp : p < 2147483648) : fX1_has (Int32.ofNat n) (Int32.ofNat p) = b01 (decide (p < n)) := by
  unfold fX1_has b01
  rw [if_neg (z_nn hp)]
  by_cases h : n ≤ p
  · rw [if_pos ((z_le (by omega) hp).mpr h), decide_eq_false (by omega)]; rfl
  · rw [if_neg (fun q => h ((z_le (by omega) hp).mp q)), decide_eq_true (by omega)]; rfl
theorem aC_has1 {n p : Nat} (hn : n ≤ 4) (hp : p < n) : fX1_has (Int32.ofNat n) (Int32.ofNat p) = 1 := by
  rw [aC_has hn (by omega), decide_eq_true hp]; rfl
theorem aC_hasN {n : Nat} {x : Int32} (h : x < 0) : fX1_has (Int32.ofNat n) x = 0 := by
  unfold fX1_has; rw [if_pos h]
theorem aC_has_or {n : Nat} (hn : n ≤ 4) (x : Int32) : fX1_has (Int32.ofNat n) x = 0 ∨ ∃ p : Nat, p < n ∧ x = Int32.ofNat p := by
  rcases z_cases x with h | ⟨p, rfl, hp⟩
  · exact Or.inl (aC_hasN h)
  · by_cases hpn : p < n
    · exact Or.inr ⟨p, hpn, rfl⟩
    · left; rw [aC_has hn hp, decide_eq_false hpn]; rfl
theorem aC_lacks : ∀ k : Nat, k < 64 → ∀ h : Nat, h < 7 → fX1_lacks (Int32.ofNat k) (cH h) = b01 (decide (h < 6) && !k.testBit h) := by decide +kernel
theorem aC_isSort {s : Nat} (hs : s < 2147483648) : fX10_isSort (Int32.ofNat s) = b01 (decide (s < 6)) := by
  unfold fX10_isSort b01
  rw [if_neg (z_nn hs)]
  by_cases h : 6 ≤ s
  · rw [show (6 : Int32) = Int32.ofNat 6 from rfl, if_pos ((z_le (by omega) hs).mpr h), decide_eq_false (by omega)]; rfl
  · rw [show (6 : Int32) = Int32.ofNat 6 from rfl, if_neg (fun q => h ((z_le (by omega) hs).mp q)), decide_eq_true (by omega)]; rfl
theorem aC_isSort_or (x : Int32) : fX10_isSort x = 0 ∨ ∃ s : Nat, s < 6 ∧ x = Int32.ofNat s ∧ fX10_isSort x = 1 := by
  rcases z_cases x with h | ⟨p, rfl, hp⟩
  · left; unfold fX10_isSort; rw [if_pos h]
  · by_cases hpn : p < 6
    · exact Or.inr ⟨p, hpn, rfl, by rw [aC_isSort hp, decide_eq_true hpn]; rfl⟩
    · left; rw [aC_isSort hp, decide_eq_false hpn]; rfl
theorem aC_bit : ∀ h : Nat, h < 7 → fX10_bit (cH h) = if h = 6 then 0 else Int32.ofNat (2 ^ h) := by decide +kernel
theorem z_chk {β : Type} {i m : Nat} (h : i < m) (hm : m < 2147483648) (x : Option β) : nh_chk (nh_in (Int32.ofNat i) m) x = x := by
  rw [z_in (by omega), decide_eq_true h]; rfl
theorem aC_can {n : Nat} {h k : Nat → Nat} {hd kn : Nat → Int32} (ok : pOk n h k) (c : pC n h k hd kn) {i j : Nat} (hi : i < n) (hj : j < n) : fX1_canSwap (Int32.ofNat n) hd kn (Int32.ofNat i) (Int32.ofNat j) = some (b01 (canB h k i j)) := by
  obtain ⟨hn, hv⟩ := ok
  have vi := hv i hi
  have vj := hv j hj
  unfold fX1_canSwap
  rw [aC_has1 hn hi, aC_has1 hn hj, if_neg (by decide), if_neg (by decide)]
  simp only [z_chk (show i < 4 by omega) (by omega), z_chk (show j < 4 by omega) (by omega), z_ix (show i < 2147483648 by omega), z_ix (show j < 2147483648 by omega), (c i hi).1, (c i hi).2, (c j hj).1, (c j hj).2]
  rw [aC_lacks _ vi.2.1 _ (by omega), aC_lacks _ vj.2.1 _ (by omega)]
  unfold canB
  cases decide (h i < 6) <;> cases decide (h j < 6) <;> cases (k i).testBit (h j) <;> cases (k j).testBit (h i) <;> rfl
theorem upd_same {f : Nat → Int32} {i : Nat} {x : Int32} : upd f i x i = x := by simp [upd]
theorem upd_ne {f : Nat → Int32} {i j : Nat} {x : Int32} (h : j ≠ i) : upd f i x j = f j := by simp [upd, h]
theorem aC_cross {hd : Nat → Int32} {i j : Nat} (hi : i < 4) (hj : j < 4) : fX1_crossThings hd (Int32.ofNat i) (Int32.ofNat j) = some (upd (upd hd i (hd j)) j (hd i)) := by
  unfold fX1_crossThings
  simp only [z_chk hi (by omega), z_chk hj (by omega), nh_let, z_ix (show i < 2147483648 by omega), z_ix (show j < 2147483648 by omega)]
/-- an exchange that may be, and its undoing -/
theorem aC_swap {n : Nat} {h k : Nat → Nat} {hd kn : Nat → Int32} (ok : pOk n h k) (c : pC n h k hd kn) {i j : Nat} (hi : i < n) (hj : j < n) (hc : canB h k i j = true) : ∃ hd' kn', fX1_swap (Int32.ofNat n) hd kn (Int32.ofNat i) (Int32.ofNat j) = some (hd', kn') ∧ pC n (swH h i j) (swK h k i j) hd' kn' ∧ pOk n (swH h i j) (swK h k i j) ∧ fX1_swapBack (Int32.ofNat n) hd' kn' (Int32.ofNat i) (Int32.ofNat j) = some (hd, kn) := by
  obtain ⟨hn, hv⟩ := id ok
  have vi := hv i hi
  have vj := hv j hj
  have hcc := hc
  unfold canB at hcc
  simp only [Bool.and_eq_true, decide_eq_true_eq, Bool.not_eq_true'] at hcc
  obtain ⟨⟨⟨h1, h2⟩, h3⟩, h4⟩ := hcc
  have hij : i ≠ j := by
    intro e; subst e
    rw [vi.2.2 h1] at h3; cases h3
  have ci := c i hi
  have cj := c j hj
  have ei : hd i = cH (h i) := ci.1
  have ej : hd j = cH (h j) := cj.1
  refine ⟨upd (upd hd i (hd j)) j (hd i), upd (upd kn i (Int32.ofNat (k i ||| 2 ^ h j))) j (Int32.ofNat (k j ||| 2 ^ h i)), ?_, ?_, ?_, ?_⟩
  · unfold fX1_swap
    rw [aC_has1 hn hi, aC_has1 hn hj, if_neg (by decide), if_neg (by decide), aC_cross (by omega) (by omega)]
    simp only [nh_b1, z_chk (show i < 4 by omega) (by omega), z_chk (show j < 4 by omega) (by omega), nh_let, z_ix (show i < 2147483648 by omega), z_ix (show j < 2147483648 by omega)]
    rw [upd_ne hij, upd_same, upd_same, upd_ne (Ne.symm hij), ci.2, cj.2, ei, ej, aC_bit _ (by omega), aC_bit _ (by omega), if_neg (by omega), if_neg (by omega), z_oro _ vi.2.1 _ (by have := z_or_lt 0 (by omega) _ h2; simpa using this), z_oro _ vj.2.1 _ (by have := z_or_lt 0 (by omega) _ h1; simpa using this)]
  · intro p hp
    unfold swH swK
    by_cases hpj : p = j
    · subst hpj
      rw [upd_same, upd_same, if_neg (Ne.symm hij), if_pos rfl, if_neg (Ne.symm hij), if_pos rfl]
      exact ⟨ei, rfl⟩
    · rw [upd_ne hpj, upd_ne hpj]
      by_cases hpi : p = i
      · subst hpi
        rw [upd_same, upd_same, if_pos rfl, if_pos rfl]
        exact ⟨ej, rfl⟩
      · rw [upd_ne hpi, upd_ne hpi, if_neg hpi, if_neg hpj, if_neg hpi, if_neg hpj]
        exact c p hp
  · refine ⟨hn, fun p hp => ?_⟩
    unfold swH swK
    by_cases hpi : p = i
    · subst hpi
      rw [if_pos rfl, if_pos rfl]
      refine ⟨by omega, z_or_lt _ vi.2.1 _ h2, fun _ => ?_⟩
      simp [Nat.testBit_or, Nat.testBit_two_pow]
    · rw [if_neg hpi, if_neg hpi]
      by_cases hpj : p = j
      · subst hpj
        rw [if_pos rfl, if_pos rfl]
        refine ⟨by omega, z_or_lt _ vj.2.1 _ h1, fun _ => ?_⟩
        simp [Nat.testBit_or, Nat.testBit_two_pow]
      · rw [if_neg hpj, if_neg hpj]
        exact hv p hp
  · unfold fX1_swapBack
    rw [aC_has1 hn hi, aC_has1 hn hj, if_neg (by decide), if_neg (by decide)]
    simp only [aC_cross (show i < 4 by omega) (show j < 4 by omega), nh_b1, z_chk (show i < 4 by omega) (by omega), z_chk (show j < 4 by omega) (by omega), nh_let, z_ix (show i < 2147483648 by omega), z_ix (show j < 2147483648 by omega)]
    have e1 : upd (upd hd i (hd j)) j (hd i) i = hd j := by rw [upd_ne hij, upd_same]
    have e2 : upd (upd hd i (hd j)) j (hd i) j = hd i := upd_same
    have e3 : upd (upd kn i (Int32.ofNat (k i ||| 2 ^ h j))) j (Int32.ofNat (k j ||| 2 ^ h i)) i = Int32.ofNat (k i ||| 2 ^ h j) := by rw [upd_ne hij, upd_same]
    have e4 : upd (upd kn i (Int32.ofNat (k i ||| 2 ^ h j))) j (Int32.ofNat (k j ||| 2 ^ h i)) j = Int32.ofNat (k j ||| 2 ^ h i) := upd_same
    rw [e1, e2, e3, upd_ne (Ne.symm hij), e4, ei, ej, aC_bit _ (by omega), aC_bit _ (by omega), if_neg (by omega), if_neg (by omega), z_off _ vi.2.1 _ h2 h3, z_off _ vj.2.1 _ h1 h4]
    have f1 : upd (upd (upd (upd hd i (cH (h j))) j (cH (h i))) i (cH (h i))) j (cH (h j)) = hd := by
      funext p
      by_cases hpj : p = j
      · subst hpj; rw [upd_same, ej]
      · rw [upd_ne hpj]
        by_cases hpi : p = i
        · subst hpi; rw [upd_same, ei]
        · rw [upd_ne hpi, upd_ne hpj, upd_ne hpi]
    have f2 : upd (upd (upd (upd kn i (Int32.ofNat (k i ||| 2 ^ h j))) j (Int32.ofNat (k j ||| 2 ^ h i))) i (Int32.ofNat (k i))) j (Int32.ofNat (k j)) = kn := by
      funext p
      by_cases hpj : p = j
      · subst hpj; rw [upd_same, cj.2]
      · rw [upd_ne hpj]
        by_cases hpi : p = i
        · subst hpi; rw [upd_same, ci.2]
        · rw [upd_ne hpi, upd_ne hpj, upd_ne hpi]
    rw [f1, f2]
