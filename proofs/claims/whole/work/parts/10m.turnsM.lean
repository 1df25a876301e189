/-! turns: the reference -/
theorem tkB_eq {n : Nat} {h k w : Nat → Nat} (ok : pOk n h k) {p i : Nat} (hp : p < n) : tkB h k w p i = (canB h k p i && decide (wv w i (h i) ≤ wv w i (h p))) := by
  unfold tkB
  cases hc : canB h k p i with
  | false => rw [Bool.and_false]
  | true =>
    rw [decide_eq_true (show i ≠ p from fun e => canB_ne ok hp hc e.symm)]; rfl
theorem mM_takes {n : Nat} {h k w : Nat → Nat} {had holds wo : Nat → Int32} {d : Nat} (ok : pOk n h k) (c : pM n h k had holds d) (hw : wOk n w wo) (hd : d < 14) {p i : Nat} (hp : p < n) (hi : i < n) : fX11_takes had holds wo (Int32.ofNat d) (Int32.ofNat p) (Int32.ofNat i) = some (b01 (tkB h k w p i)) := by
  have hn := ok.1
  have vp := (ok.2 p hp).1
  have vi := (ok.2 i hi).1
  have l1 := wv_le hw hi vp
  have l2 := wv_le hw hi vi
  rw [tkB_eq ok hp]
  unfold fX11_takes
  rw [mM_may ok c hd hp hi]
  simp only [nh_b1]
  cases hc : canB h k p i with
  | false => rw [if_pos (by decide)]; rfl
  | true =>
    rw [if_neg (by decide), show (4 : Int32) = Int32.ofNat 4 from rfl, z_mul, z_add, z_add, z_chk (show 4 * d + p < 56 by omega) (by omega), z_ix (by omega), (c p hp).1, mM_worth hn hw hi vp]
    simp only
    rw [z_chk (show 4 * d + i < 56 by omega) (by omega), z_ix (by omega), (c i hi).1, mM_worth hn hw hi vi]
    show (if Int32.ofNat (wv w i (h p)) < Int32.ofNat (wv w i (h i)) then some 0 else some 1) = _
    by_cases q : wv w i (h p) < wv w i (h i)
    · rw [if_pos ((z_lt (by omega) (by omega)).mpr q), decide_eq_false (by omega)]; rfl
    · rw [if_neg (fun z => q ((z_lt (by omega) (by omega)).mp z)), decide_eq_true (by omega)]; rfl
theorem mM_scan {n : Nat} {h k w : Nat → Nat} {had holds wo tried : Nat → Int32} {d p F : Nat} (ok : pOk n h k) (c : pM n h k had holds d) (hw : wOk n w wo) (hd : d < 13) (hp : p < n) (hF : 5 ≤ F) (kk : Int32 → Option (Int32 × (Nat → Int32) × (Nat → Int32) × (Nat → Int32))) : ∀ (j i N : Nat), i + j = n → j < N →
    ((∀ x, i ≤ x → x < n → tkB h k w p x = false) ∧ fX11_nextTurn_L44 (Int32.ofNat n) had holds tried wo (Int32.ofNat d) (Int32.ofNat p) F kk N (Int32.ofNat i) = kk (Int32.ofNat n)) ∨
    ∃ x, i ≤ x ∧ x < n ∧ tkB h k w p x = true ∧ (∀ y, i ≤ y → y < x → tkB h k w p y = false) ∧ ∃ had' holds', fX11_nextTurn_L44 (Int32.ofNat n) had holds tried wo (Int32.ofNat d) (Int32.ofNat p) F kk N (Int32.ofNat i) = some (1, had', holds', upd tried d (Int32.ofNat x)) ∧ pM n (swH h p x) (swK h k p x) had' holds' (d + 1) ∧ ∀ q, q < 4 * (d + 1) ∨ 4 * (d + 1) + 4 ≤ q → had' q = had q ∧ holds' q = holds q := by
  have hn := ok.1
  intro j
  induction j with
  | zero =>
    intro i N hi hN
    obtain ⟨N, rfl⟩ : ∃ M, N = M + 1 := ⟨N - 1, by omega⟩
    left
    refine ⟨fun x h1 h2 => absurd h1 (by omega), ?_⟩
    show fX11_nextTurn_B44 _ _ _ _ _ _ _ _ _ _ _ = _
    unfold fX11_nextTurn_B44
    rw [show i = n by omega, if_pos (Int32.le_refl _)]
  | succ j ih =>
    intro i N hi hN
    obtain ⟨N, rfl⟩ : ∃ M, N = M + 1 := ⟨N - 1, by omega⟩
    have hin : i < n := by omega
    have hstep : ∀ b, tkB h k w p i = b → fX11_nextTurn_L44 (Int32.ofNat n) had holds tried wo (Int32.ofNat d) (Int32.ofNat p) F kk (N + 1) (Int32.ofNat i) = if b = true then nh_b2 (fX11_layAt F (Int32.ofNat n) had holds (Int32.ofNat d) (Int32.ofNat (d + 1))) (fun a b => nh_b2 (fX11_goAt a b (Int32.ofNat (d + 1)) (Int32.ofNat p) (Int32.ofNat i)) (fun a b => some (1, a, b, upd tried d (Int32.ofNat i)))) else fX11_nextTurn_L44 (Int32.ofNat n) had holds tried wo (Int32.ofNat d) (Int32.ofNat p) F kk N (Int32.ofNat (i + 1)) := by
      intro b hb
      show fX11_nextTurn_B44 _ _ _ _ _ _ _ _ _ _ _ = _
      unfold fX11_nextTurn_B44
      rw [if_neg (fun z => absurd ((z_le (by omega) (by omega)).mp z) (by omega)), mM_takes ok c hw (by omega) hp hin, hb]
      simp only [nh_b1]
      cases b with
      | false => rw [if_pos (by decide), if_neg (by decide)]; simp only [nh_let, z_succ]
      | true =>
        rw [if_neg (by decide), if_pos rfl, z_chk (show d < 14 by omega) (by omega), z_ix (by omega), z_succ]
        simp only [nh_let]
    cases ht : tkB h k w p i with
    | false =>
      rw [hstep _ ht, if_neg (by decide)]
      rcases ih (i + 1) N (by omega) (by omega) with ⟨g1, g2⟩ | ⟨x, g1, g2, g3, g4, g5⟩
      · exact Or.inl ⟨fun x h1 h2 => by
          by_cases e : x = i
          · rw [e]; exact ht
          · exact g1 x (by omega) h2, g2⟩
      · exact Or.inr ⟨x, by omega, g2, g3, fun y h1 h2 => by
          by_cases e : y = i
          · rw [e]; exact ht
          · exact g4 y (by omega) h2, g5⟩
    | true =>
      rw [hstep _ ht, if_pos rfl]
      right
      refine ⟨i, Nat.le_refl _, hin, ht, fun y h1 h2 => absurd h1 (by omega), ?_⟩
      obtain ⟨had1, holds1, g1, g2, g3⟩ := mM_lay (F := F) hn c (show d < 14 by omega) (show d + 1 < 14 by omega) (by omega) hF
      obtain ⟨had2, holds2, f1, f2, f3⟩ := mM_go ok g2 (show d + 1 < 14 by omega) hp hin (tkB_parts ht).2.1
      refine ⟨had2, holds2, ?_, f2, fun q hq => ?_⟩
      · rw [g1]
        simp only [nh_b2]
        rw [f1]
      · rw [(f3 q hq).1, (f3 q hq).2]
        exact g3 q hq
theorem mM_pass {n : Nat} {h k w : Nat → Nat} {had holds wo tried : Nat → Int32} {d F : Nat} (ok : pOk n h k) (c : pM n h k had holds d) (h0 : 0 < n) (hd : d < 13) (hF : 5 ≤ F) (ht : tried d = -9) : ∃ had' holds', fX11_nextTurn F (Int32.ofNat n) had holds tried wo (Int32.ofNat d) = some (1, had', holds', upd tried d (-1)) ∧ pM n h k had' holds' (d + 1) ∧ ∀ q, q < 4 * (d + 1) ∨ 4 * (d + 1) + 4 ≤ q → had' q = had q ∧ holds' q = holds q := by
  have hn := ok.1
  obtain ⟨had1, holds1, g1, g2, g3⟩ := mM_lay (F := F) hn c (show d < 14 by omega) (show d + 1 < 14 by omega) (by omega) hF
  refine ⟨had1, holds1, ?_, g2, g3⟩
  unfold fX11_nextTurn
  rw [decide_eq_true (show ¬ Int32.ofNat n = 0 from fun z => absurd ((z_eq (a := n) (b := 0) (by omega) (by omega)).mp z) (by omega)), chk_t]
  simp only [nh_let]
  simp only [z_chk (show d < 14 by omega) (show 14 < 2147483648 by omega), z_ix (show d < 2147483648 by omega), ht, z_succ, g1, nh_b2, if_true]
theorem mM_nextTurn {n : Nat} {h k w : Nat → Nat} {had holds wo tried : Nat → Int32} {d F i : Nat} (ok : pOk n h k) (c : pM n h k had holds d) (hw : wOk n w wo) (h0 : 0 < n) (hd : d < 13) (hF : 6 ≤ F) (hi : i ≤ n) (ht : tried d + 1 = Int32.ofNat i) :
    ((∀ x, i ≤ x → x < n → tkB h k w (d % n) x = false) ∧ fX11_nextTurn F (Int32.ofNat n) had holds tried wo (Int32.ofNat d) = some (0, had, holds, tried)) ∨
    ∃ x, i ≤ x ∧ x < n ∧ tkB h k w (d % n) x = true ∧ (∀ y, i ≤ y → y < x → tkB h k w (d % n) y = false) ∧ ∃ had' holds', fX11_nextTurn F (Int32.ofNat n) had holds tried wo (Int32.ofNat d) = some (1, had', holds', upd tried d (Int32.ofNat x)) ∧ pM n (swH h (d % n) x) (swK h k (d % n) x) had' holds' (d + 1) ∧ ∀ q, q < 4 * (d + 1) ∨ 4 * (d + 1) + 4 ≤ q → had' q = had q ∧ holds' q = holds q := by
  have hn := ok.1
  have e : fX11_nextTurn F (Int32.ofNat n) had holds tried wo (Int32.ofNat d) = fX11_nextTurn_L44 (Int32.ofNat n) had holds tried wo (Int32.ofNat d) (Int32.ofNat (d % n)) F (fun x3_8 => some (0, had, holds, tried)) F (Int32.ofNat i) := by
    unfold fX11_nextTurn
    rw [decide_eq_true (show ¬ Int32.ofNat n = 0 from fun z => absurd ((z_eq (a := n) (b := 0) (by omega) (by omega)).mp z) (by omega)), chk_t, z_mod hn h0 (by omega)]
    simp only [nh_let]
    simp only [z_chk (show d < 14 by omega) (show 14 < 2147483648 by omega), z_ix (show d < 2147483648 by omega)]
    rw [if_neg (fun z => by
      rw [z] at ht
      have := congrArg Int32.toInt ht
      rw [z_toInt (by omega), show (-9 + 1 : Int32).toInt = -8 from rfl] at this
      omega), ht]
  rw [e]
  exact mM_scan ok c hw hd (Nat.mod_lt _ h0) (by omega) _ (n - i) i F (by omega) (by omega)
def cdA (a : Int32) : Int32 := if a = -9 then -1 else a
def rowO (n : Nat) (e : Nat → Nat) (outcome : Nat → Int32) (d : Nat) : Prop := ∀ p, p < n → outcome (4 * d + p) = Int32.ofNat (e p)
def bS (n : Nat) (w : Nat → Nat) (d : Nat) (b : (Nat → Nat) × Int32) (act outcome value : Nat → Int32) : Prop := value d = Int32.ofNat (wv w (d % n) (b.1 (d % n))) ∧ act d = cdA b.2 ∧ rowO n b.1 outcome d
theorem mM_offer_loop {n : Nat} (hn : n ≤ 4) {d : Nat} (hd : d < 6) {e : Nat → Nat} (kk : Int32 → (Nat → Int32) → Option ((Nat → Int32) × (Nat → Int32) × (Nat → Int32))) : ∀ (j i N : Nat) (outcome : Nat → Int32), i + j = n → j < N → rowO n e outcome (d + 1) → (∀ p, p < i → outcome (4 * d + p) = Int32.ofNat (e p)) → ∃ outcome', fX11_offer_L62 (Int32.ofNat n) (Int32.ofNat (d + 1)) (Int32.ofNat d) kk N (Int32.ofNat i) outcome = kk (Int32.ofNat n) outcome' ∧ rowO n e outcome' d ∧ ∀ q, q < 4 * d ∨ 4 * d + 4 ≤ q → outcome' q = outcome q := by
  intro j
  induction j with
  | zero =>
    intro i N outcome hi hN h1 h2
    obtain ⟨N, rfl⟩ : ∃ M, N = M + 1 := ⟨N - 1, by omega⟩
    refine ⟨outcome, ?_, fun p hp => h2 p (by omega), fun q _ => rfl⟩
    show fX11_offer_B62 _ _ _ _ _ _ _ = _
    unfold fX11_offer_B62
    rw [show i = n by omega, if_pos (Int32.le_refl _)]
  | succ j ih =>
    intro i N outcome hi hN h1 h2
    obtain ⟨N, rfl⟩ : ∃ M, N = M + 1 := ⟨N - 1, by omega⟩
    obtain ⟨o', g1, g2, g3⟩ := ih (i + 1) N (upd outcome (4 * d + i) (Int32.ofNat (e i))) (by omega) (by omega) (fun p hp => by rw [upd_ne (show 4 * (d + 1) + p ≠ 4 * d + i by omega)]; exact h1 p hp) (fun p hp => by
      by_cases q : p = i
      · rw [q, upd_same]
      · rw [upd_ne (show 4 * d + p ≠ 4 * d + i by omega)]; exact h2 p (by omega))
    refine ⟨o', ?_, g2, fun q hq => by rw [g3 q hq, upd_ne (show q ≠ 4 * d + i by omega)]⟩
    rw [← g1]
    show fX11_offer_B62 _ _ _ _ _ _ _ = _
    unfold fX11_offer_B62
    rw [if_neg (fun z => absurd ((z_le (by omega) (by omega)).mp z) (by omega)), show (4 : Int32) = Int32.ofNat 4 from rfl, z_mul, z_mul, z_add, z_add, z_chk (show 4 * (d + 1) + i < 28 by omega) (by omega), z_chk (show 4 * d + i < 28 by omega) (by omega), z_ix (by omega), z_ix (by omega), h1 i (by omega)]
    simp only [nh_let, z_succ]
theorem mM_offer {n F : Nat} (hn : n ≤ 4) (h0 : 0 < n) (hF : 6 ≤ F) {w : Nat → Nat} {wo : Nat → Int32} (hw : wOk n w wo) {d : Nat} (hd : d < 6) {e : Nat → Nat} (he : eOk n e) {act outcome tried value : Nat → Int32} (h1 : rowO n e outcome (d + 1)) :
    (Int32.ofNat (wv w (d % n) (e (d % n))) ≤ value d → fX11_offer F (Int32.ofNat n) act outcome tried value wo (Int32.ofNat (d + 1)) = some (act, outcome, value)) ∧
    (¬ Int32.ofNat (wv w (d % n) (e (d % n))) ≤ value d → ∃ outcome', fX11_offer F (Int32.ofNat n) act outcome tried value wo (Int32.ofNat (d + 1)) = some (upd act d (tried d), outcome', upd value d (Int32.ofNat (wv w (d % n) (e (d % n))))) ∧ rowO n e outcome' d ∧ ∀ q, q < 4 * d ∨ 4 * d + 4 ≤ q → outcome' q = outcome q) := by
  have hp : d % n < n := Nat.mod_lt _ h0
  have key : fX11_offer F (Int32.ofNat n) act outcome tried value wo (Int32.ofNat (d + 1)) = if Int32.ofNat (wv w (d % n) (e (d % n))) ≤ value d then some (act, outcome, value) else fX11_offer_L62 (Int32.ofNat n) (Int32.ofNat (d + 1)) (Int32.ofNat d) (fun _ o => some (upd act d (tried d), o, upd value d (Int32.ofNat (wv w (d % n) (e (d % n)))))) F (Int32.ofNat 0) outcome := by
    unfold fX11_offer
    rw [show Int32.ofNat (d + 1) - 1 = Int32.ofNat d from z_sub (a := d + 1) (b := 1) (by omega)]
    simp only [nh_let]
    rw [decide_eq_true (show ¬ Int32.ofNat n = 0 from fun z => absurd ((z_eq (a := n) (b := 0) (by omega) (by omega)).mp z) (by omega)), chk_t, z_mod hn h0 (by omega), show (4 : Int32) = Int32.ofNat 4 from rfl, z_mul, z_add, z_chk (show 4 * (d + 1) + d % n < 28 by omega) (by omega), z_ix (by omega), h1 _ hp, mM_worth hn hw hp (he _ hp)]
    simp only [nh_b1, z_chk (show d < 7 by omega) (show 7 < 2147483648 by omega), z_chk (show d < 14 by omega) (show 14 < 2147483648 by omega), z_ix (show d < 2147483648 by omega)]
    rfl
  refine ⟨fun g => by rw [key, if_pos g], fun g => ?_⟩
  rw [key, if_neg g]
  obtain ⟨o', g1, g2, g3⟩ := mM_offer_loop hn hd (e := e) (fun _ o => some (upd act d (tried d), o, upd value d (Int32.ofNat (wv w (d % n) (e (d % n)))))) n 0 F outcome (by omega) (by omega) h1 (fun p hp => absurd hp (by omega))
  exact ⟨o', g1, g2, g3⟩
