/-! turns: all look to themselves -/
def wv (w : Nat → Nat) (p s : Nat) : Nat := if s = 6 then 0 else w (6 * p + s)
def tkB (h k w : Nat → Nat) (p i : Nat) : Bool := decide (i ≠ p) && canB h k p i && decide (wv w i (h i) ≤ wv w i (h p))
def trS (h k w : Nat → Nat) (R : Nat → (Nat → Nat)) (p : Nat) (b : (Nat → Nat) × Int32) (i : Nat) : (Nat → Nat) × Int32 :=
  if tkB h k w p i = true then (if wv w p (R i p) ≤ wv w p (b.1 p) then b else (R i, Int32.ofNat i)) else b
def trn (n : Nat) (w : Nat → Nat) : Nat → Nat → (Nat → Nat) → (Nat → Nat) → (Nat → Nat) × Int32
  | 0, _, h, _ => (h, -9)
  | m + 1, t, h, k => (List.range' 0 n).foldl (trS h k w (fun i => (trn n w m (t + 1) (swH h (t % n) i) (swK h k (t % n) i)).1) (t % n)) ((trn n w m (t + 1) h k).1, -9)
def eOk (n : Nat) (e : Nat → Nat) : Prop := ∀ p, p < n → e p ≤ 6
theorem trS_fold_ok {n : Nat} {h k w : Nat → Nat} {R : Nat → (Nat → Nat)} {p : Nat} : ∀ (l : List Nat) (b : (Nat → Nat) × Int32), eOk n b.1 → (∀ i, i ∈ l → tkB h k w p i = true → eOk n (R i)) → eOk n (l.foldl (trS h k w R p) b).1
  | [], b, hb, _ => hb
  | i :: l, b, hb, hR => by
    rw [List.foldl_cons]
    refine trS_fold_ok l _ ?_ (fun j hj => hR j (List.mem_cons_of_mem _ hj))
    unfold trS
    by_cases t : tkB h k w p i = true
    · rw [if_pos t]
      split
      · exact hb
      · exact hR i List.mem_cons_self t
    · rw [if_neg t]; exact hb
theorem tkB_parts {h k w : Nat → Nat} {p i : Nat} (t : tkB h k w p i = true) : i ≠ p ∧ canB h k p i = true ∧ wv w i (h i) ≤ wv w i (h p) := by
  unfold tkB at t
  simp only [Bool.and_eq_true, decide_eq_true_eq] at t
  exact ⟨t.1.1, t.1.2, t.2⟩
theorem trn_ok {n : Nat} {w : Nat → Nat} : ∀ (m t : Nat) (h k : Nat → Nat), pOk n h k → eOk n (trn n w m t h k).1
  | 0, _, _, _, ok => fun p hp => (ok.2 p hp).1
  | m + 1, t, h, k, ok => by
    refine trS_fold_ok _ _ (trn_ok m (t + 1) h k ok) (fun i hi ti => ?_)
    have hin : i < n := by have := (List.mem_range'_1.mp hi).2; omega
    have hp : t % n < n := Nat.mod_lt _ (by omega)
    exact trn_ok m (t + 1) _ _ (pOk_sw ok hp hin (tkB_parts ti).2.1)
/-! packed ends -/
def cdE (v : Nat) : Nat := if v = 6 then 7 else v
def pkN (e : Nat → Nat) : Nat → Nat
  | 0 => 0
  | m + 1 => pkN e m + cdE (e m) * 8 ^ m
theorem z_sh : ∀ p : Nat, p < 4 → ∀ x : Nat, x < 8 ^ p → ∀ v : Nat, v < 8 → (Int32.ofNat x ||| (Int32.ofNat v <<< ((3 * Int32.ofNat p) &&& 31))) = Int32.ofNat (x + v * 8 ^ p) := by decide +kernel
theorem z_un0 : ∀ p : Nat, p < 4 → ∀ a : Nat, a < 64 → ∀ b : Nat, b < 64 → fX8_thingIn (Int32.ofNat (a + 64 * b)) (Int32.ofNat p) = if (a + 64 * b) / 8 ^ p % 8 = 7 then -9 else Int32.ofNat ((a + 64 * b) / 8 ^ p % 8) := by decide +kernel
theorem z_un (p : Nat) (hp : p < 4) (x : Nat) (hx : x < 4096) : fX8_thingIn (Int32.ofNat x) (Int32.ofNat p) = if x / 8 ^ p % 8 = 7 then -9 else Int32.ofNat (x / 8 ^ p % 8) := by
  have := z_un0 p hp (x % 64) (by omega) (x / 64) (by omega)
  rwa [Nat.mod_add_div] at this
theorem cdE_lt {v : Nat} (h : v ≤ 6) : cdE v < 8 := by unfold cdE; split <;> omega
theorem pkN_lt {e : Nat → Nat} : ∀ m, eOk m e → pkN e m < 8 ^ m
  | 0, _ => by show 0 < 8 ^ 0; decide
  | m + 1, h => by
    have a := pkN_lt m (fun p hp => h p (by omega))
    have b := cdE_lt (h m (by omega))
    show pkN e m + cdE (e m) * 8 ^ m < 8 ^ (m + 1)
    rw [Nat.pow_succ]
    have : cdE (e m) * 8 ^ m ≤ 7 * 8 ^ m := Nat.mul_le_mul_right _ (by omega)
    omega
theorem pkN_at {e : Nat → Nat} : ∀ m, eOk m e → ∀ p, p < m → pkN e m / 8 ^ p % 8 = cdE (e p)
  | 0, _, p, h => absurd h (by omega)
  | m + 1, ok, p, h => by
    show (pkN e m + cdE (e m) * 8 ^ m) / 8 ^ p % 8 = _
    have lt := pkN_lt m (fun p hp => ok p (by omega))
    by_cases q : p = m
    · subst q
      rw [Nat.add_mul_div_right _ _ (Nat.pow_pos (by omega)), Nat.div_eq_of_lt lt, Nat.zero_add, Nat.mod_eq_of_lt (cdE_lt (ok p (by omega)))]
    · have e1 : cdE (e m) * 8 ^ m = (cdE (e m) * 8 ^ (m - p - 1) * 8) * 8 ^ p := by
        rw [Nat.mul_assoc, Nat.mul_assoc, ← Nat.mul_assoc (8 ^ (m - p - 1)), ← Nat.pow_succ, ← Nat.pow_add, show (m - p - 1).succ + p = m by omega]
      rw [e1, Nat.add_mul_div_right _ _ (Nat.pow_pos (by omega)), Nat.add_mul_mod_self_right]
      exact pkN_at m (fun p hp => ok p (by omega)) p (by omega)
theorem aC_thingIn {n : Nat} (hn : n ≤ 4) {e : Nat → Nat} (he : eOk n e) {p : Nat} (hp : p < n) : fX8_thingIn (Int32.ofNat (pkN e n)) (Int32.ofNat p) = cH (e p) := by
  have a := pkN_lt n he
  have b : (8 : Nat) ^ n ≤ 8 ^ 4 := Nat.pow_le_pow_right (by omega) hn
  rw [z_un p (by omega) _ (by omega), pkN_at n he p hp]
  have v := he p hp
  unfold cdE
  by_cases h6 : e p = 6
  · rw [h6]; rfl
  · rw [if_neg h6, if_neg (by omega), cH_lt (by omega)]
theorem aC_all {n : Nat} {h k : Nat → Nat} {hd kn : Nat → Int32} (ok : pOk n h k) (c : pC n h k hd kn) : ∀ (j p N : Nat), p + j = n → j < N → fX8_allThings_L4 (Int32.ofNat n) hd (fun x1_3 x2_4 => some x1_3) N (Int32.ofNat (pkN h p)) (Int32.ofNat p) = some (Int32.ofNat (pkN h n)) := by
  have hn := ok.1
  intro j
  induction j with
  | zero =>
    intro p N hp hN
    obtain ⟨N, rfl⟩ : ∃ M, N = M + 1 := ⟨N - 1, by omega⟩
    show fX8_allThings_B4 _ _ _ _ _ _ = _
    unfold fX8_allThings_B4
    rw [show p = n by omega, if_pos (Int32.le_refl _)]
  | succ j ih =>
    intro p N hp hN
    obtain ⟨N, rfl⟩ : ∃ M, N = M + 1 := ⟨N - 1, by omega⟩
    have hpn : p < n := by omega
    have v := (ok.2 p hpn).1
    have lt := pkN_lt (e := h) p (fun q hq => (ok.2 q (by omega)).1)
    show fX8_allThings_B4 _ _ _ _ _ _ = _
    unfold fX8_allThings_B4
    rw [if_neg (fun z => absurd ((z_le (by omega) (by omega)).mp z) (by omega))]
    simp only [z_chk (show p < 4 by omega) (show 4 < 2147483648 by omega), nh_let, z_succ, z_ix (show p < 2147483648 by omega), (c p hpn).1]
    by_cases h6 : h p = 6
    · rw [if_pos ((cH_ne v).mpr h6), show (7 : Int32) = Int32.ofNat 7 from rfl, z_sh p (by omega) _ lt 7 (by omega)]
      have : pkN h p + 7 * 8 ^ p = pkN h (p + 1) := by
        show _ = pkN h p + cdE (h p) * 8 ^ p
        rw [h6]; rfl
      rw [this]
      exact ih (p + 1) N (by omega) (by omega)
    · rw [if_neg (fun z => h6 ((cH_ne v).mp z)), cH_lt (by omega), z_sh p (by omega) _ lt (h p) (by omega)]
      have : pkN h p + h p * 8 ^ p = pkN h (p + 1) := by
        show _ = pkN h p + cdE (h p) * 8 ^ p
        unfold cdE; rw [if_neg h6]
      rw [this]
      exact ih (p + 1) N (by omega) (by omega)
theorem aC_allThings {n F : Nat} {h k : Nat → Nat} {hd kn : Nat → Int32} (ok : pOk n h k) (c : pC n h k hd kn) (hF : 6 ≤ F) : fX8_allThings F (Int32.ofNat n) hd = some (Int32.ofNat (pkN h n)) := by
  have hn := ok.1
  exact aC_all ok c n 0 F (by omega) (by omega)
theorem aC_worthIn {n : Nat} (hn : n ≤ 4) {w : Nat → Nat} {wo : Nat → Int32} (hw : wOk n w wo) {e : Nat → Nat} (he : eOk n e) {p : Nat} (hp : p < n) : fX8_worthIn (Int32.ofNat n) wo (Int32.ofNat (pkN e n)) (Int32.ofNat p) = some (Int32.ofNat (wv w p (e p))) := by
  unfold fX8_worthIn
  rw [aC_thingIn hn he hp, aC_worth hn hw hp (he p hp)]; rfl
theorem wv_le {n : Nat} {w : Nat → Nat} {wo : Nat → Int32} (hw : wOk n w wo) {p s : Nat} (hp : p < n) (hs : s ≤ 6) : wv w p s ≤ 9 := by
  unfold wv
  split
  · omega
  · exact (hw p s hp (by omega)).2
theorem aC_agrees {n : Nat} {h k w : Nat → Nat} {hd kn wo : Nat → Int32} (ok : pOk n h k) (c : pC n h k hd kn) (hw : wOk n w wo) {p i : Nat} (hp : p < n) (hi : i < n) : fX8_agrees (Int32.ofNat n) hd wo (Int32.ofNat p) (Int32.ofNat i) = some (b01 (decide (wv w i (h i) ≤ wv w i (h p)))) := by
  have hn := ok.1
  have vp := (ok.2 p hp).1
  have vi := (ok.2 i hi).1
  have l1 := wv_le hw hi vp
  have l2 := wv_le hw hi vi
  unfold fX8_agrees
  simp only [z_chk (show p < 4 by omega) (show 4 < 2147483648 by omega), z_chk (show i < 4 by omega) (show 4 < 2147483648 by omega), z_ix (show p < 2147483648 by omega), z_ix (show i < 2147483648 by omega), (c p hp).1, (c i hi).1, aC_worth hn hw hi vp, aC_worth hn hw hi vi, nh_b1]
  show (if Int32.ofNat (wv w i (h p)) < Int32.ofNat (wv w i (h i)) then some 0 else some 1) = _
  by_cases q : wv w i (h p) < wv w i (h i)
  · rw [if_pos ((z_lt (by omega) (by omega)).mpr q), decide_eq_false (by omega)]; rfl
  · rw [if_neg (fun z => q ((z_lt (by omega) (by omega)).mp z)), decide_eq_true (by omega)]; rfl
section BEST
variable {n : Nat} {h k w : Nat → Nat} {hd kn wo : Nat → Int32} {t K p : Nat} {R : Nat → (Nat → Nat)} {rc : Int32 → Int32 → (Nat → Int32) → (Nat → Int32) → (Nat → Int32) → Int32 → Int32 → Option (Int32 × Int32 × (Nat → Int32) × (Nat → Int32))}
theorem aC_best_loop (ok : pOk n h k) (c : pC n h k hd kn) (hw : wOk n w wo) (hp : p < n) (ht : t < 100)
    (hR : ∀ i, i < n → tkB h k w p i = true → eOk n (R i))
    (hrc : ∀ op i hd' kn', i < n → tkB h k w p i = true → pC n (swH h p i) (swK h k p i) hd' kn' → rc op (Int32.ofNat n) hd' kn' wo (Int32.ofNat (t + 1)) (Int32.ofNat K) = some (Int32.ofNat (pkN (R i) n), op, hd', kn'))
    (kk : Int32 → Int32 → Int32 → Int32 → (Nat → Int32) → (Nat → Int32) → Option (Int32 × Int32 × (Nat → Int32) × (Nat → Int32))) (op : Int32) : ∀ (j i N : Nat) (b : (Nat → Nat) × Int32), i + j = n → j < N → eOk n b.1 →
      fX8_bestEnd_L50 (Int32.ofNat n) wo (Int32.ofNat t) (Int32.ofNat K) rc (Int32.ofNat p) kk N (Int32.ofNat (pkN b.1 n)) b.2 (Int32.ofNat i) op hd kn = kk (Int32.ofNat (pkN ((List.range' i j).foldl (trS h k w R p) b).1 n)) ((List.range' i j).foldl (trS h k w R p) b).2 (Int32.ofNat n) op hd kn := by
  have hn := ok.1
  intro j
  induction j with
  | zero =>
    intro i N b hi hN hb
    obtain ⟨N, rfl⟩ : ∃ M, N = M + 1 := ⟨N - 1, by omega⟩
    show fX8_bestEnd_B50 _ _ _ _ _ _ _ _ _ _ _ _ _ _ = _
    unfold fX8_bestEnd_B50
    rw [show i = n by omega, if_pos (Int32.le_refl _)]; rfl
  | succ j ih =>
    intro i N b hi hN hb
    obtain ⟨N, rfl⟩ : ∃ M, N = M + 1 := ⟨N - 1, by omega⟩
    have hin : i < n := by omega
    rw [List.range'_succ, List.foldl_cons]
    show fX8_bestEnd_B50 _ _ _ _ _ _ _ _ _ _ _ _ _ _ = _
    unfold fX8_bestEnd_B50
    rw [if_neg (fun z => absurd ((z_le (by omega) (by omega)).mp z) (by omega))]
    simp only [nh_let, z_succ]
    by_cases e : i = p
    · have ht : tkB h k w p i = false := by unfold tkB; rw [decide_eq_false (show ¬ i ≠ p by omega)]; rfl
      rw [if_pos (show Int32.ofNat i = Int32.ofNat p by rw [e]), show trS h k w R p b i = b by unfold trS; rw [ht, if_neg (by decide)]]
      exact ih (i + 1) N b (by omega) (by omega) hb
    · rw [if_neg (fun z => e ((z_eq (by omega) (by omega)).mp z)), aC_can ok c hp hin]
      simp only [nh_b1]
      by_cases hc : canB h k p i = true
      · rw [if_neg (show ¬ b01 (canB h k p i) = 0 by rw [hc]; decide), aC_agrees ok c hw hp hin]
        simp only
        by_cases ha : wv w i (h i) ≤ wv w i (h p)
        · have ht : tkB h k w p i = true := by
            unfold tkB; rw [decide_eq_true (show i ≠ p from e), hc, decide_eq_true ha]; rfl
          obtain ⟨hd', kn', s1, s2, s3, s4⟩ := aC_swap ok c hp hin hc
          have r1 := hR i hin ht
          rw [if_neg (show ¬ b01 (decide (wv w i (h i) ≤ wv w i (h p))) = 0 by rw [decide_eq_true ha]; decide), s1]
          simp only [nh_b2]
          rw [hrc op i hd' kn' hin ht s2]
          simp only [nh_b4]
          rw [s4]
          simp only
          rw [aC_worthIn hn hw r1 hp, aC_worthIn hn hw hb hp]
          simp only
          have l1 := wv_le hw hp (r1 p hp)
          have l2 := wv_le hw hp (hb p hp)
          by_cases lt : wv w p (R i p) ≤ wv w p (b.1 p)
          · rw [if_pos ((z_le (by omega) (by omega)).mpr lt), show trS h k w R p b i = b by unfold trS; rw [if_pos ht, if_pos lt]]
            exact ih (i + 1) N b (by omega) (by omega) hb
          · rw [if_neg (fun z => lt ((z_le (by omega) (by omega)).mp z)), show trS h k w R p b i = (R i, Int32.ofNat i) by unfold trS; rw [if_pos ht, if_neg lt]]
            exact ih (i + 1) N (R i, Int32.ofNat i) (by omega) (by omega) r1
        · have ht : tkB h k w p i = false := by unfold tkB; rw [decide_eq_false ha, Bool.and_false]
          rw [if_pos (show b01 (decide (wv w i (h i) ≤ wv w i (h p))) = 0 by rw [decide_eq_false ha]; decide), show trS h k w R p b i = b by unfold trS; rw [ht, if_neg (by decide)]]
          exact ih (i + 1) N b (by omega) (by omega) hb
      · have ht : tkB h k w p i = false := by
          unfold tkB; rw [show canB h k p i = false by simpa using hc, Bool.and_false, Bool.false_and]
        rw [if_pos (show b01 (canB h k p i) = 0 by rw [show canB h k p i = false by simpa using hc]; decide), show trS h k w R p b i = b by unfold trS; rw [ht, if_neg (by decide)]]
        exact ih (i + 1) N b (by omega) (by omega) hb
end BEST
theorem chk_t {β : Type} (x : Option β) : nh_chk true x = x := rfl
theorem z_mod {n : Nat} (hn : n ≤ 4) (h0 : 0 < n) {t : Nat} (ht : t < 257) : Int32.ofNat t - Int32.ofNat t / Int32.ofNat n * Int32.ofNat n = Int32.ofNat (t % n) := by
  obtain ⟨d1, d2⟩ := z_divs n (by omega) t ht (by omega)
  rw [d1, d2]
theorem aC_best {n F : Nat} {w : Nat → Nat} {wo : Nat → Int32} (hw : wOk n w wo) (h0 : 0 < n) {K : Nat} (hK : K ≤ 6) (hF : 6 ≤ F) : ∀ (m t D : Nat) (h k : Nat → Nat) (hd kn : Nat → Int32) (op : Int32), t + m = K → m < D → pOk n h k → pC n h k hd kn → (t = 0 → op = -9) →
    fX8_bestEnd F D op (Int32.ofNat n) hd kn wo (Int32.ofNat t) (Int32.ofNat K) = some (Int32.ofNat (pkN (trn n w m t h k).1 n), if t = 0 then (trn n w m t h k).2 else op, hd, kn) := by
  intro m
  induction m with
  | zero =>
    intro t D h k hd kn op htm hD ok c hop
    obtain ⟨D, rfl⟩ : ∃ M, D = M + 1 := ⟨D - 1, by omega⟩
    show fX8_bestEnd_R _ _ _ _ _ _ _ _ _ = _
    unfold fX8_bestEnd_R
    rw [show t = K by omega, if_pos (Int32.le_refl _), aC_allThings ok c hF]
    by_cases e : K = 0
    · rw [if_pos e, hop (by omega)]; rfl
    · rw [if_neg e]; rfl
  | succ m ih =>
    intro t D h k hd kn op htm hD ok c hop
    have hn := ok.1
    obtain ⟨D, rfl⟩ : ∃ M, D = M + 1 := ⟨D - 1, by omega⟩
    have hp : t % n < n := Nat.mod_lt _ h0
    show fX8_bestEnd_R _ _ _ _ _ _ _ _ _ = _
    unfold fX8_bestEnd_R
    rw [if_neg (fun z => absurd ((z_le (by omega) (by omega)).mp z) (by omega)), if_neg (show ¬ (6 : Int32) ≤ Int32.ofNat t from fun z => absurd ((z_le (a := 6) (b := t) (by omega) (by omega)).mp z) (by omega)), if_pos (show (1 : Int32) ≤ Int32.ofNat n from (z_le (a := 1) (b := n) (by omega) (by omega)).mpr (by omega)), decide_eq_true (show ¬ Int32.ofNat n = 0 from fun z => absurd ((z_eq (a := n) (b := 0) (by omega) (by omega)).mp z) (by omega)), z_mod hn h0 (by omega)]
    rw [chk_t]
    simp only [nh_let, z_succ]
    rw [ih (t + 1) D h k hd kn op (by omega) (by omega) ok c (fun z => absurd z (by omega))]
    simp only [nh_b4]
    rw [if_neg (show ¬ t + 1 = 0 by omega)]
    refine (aC_best_loop (t := t) (K := K) (p := t % n) (rc := fX8_bestEnd F D) (R := fun i => (trn n w m (t + 1) (swH h (t % n) i) (swK h k (t % n) i)).1) ok c hw hp (by omega) (fun i hi ti => trn_ok m (t + 1) _ _ (pOk_sw ok hp hi (tkB_parts ti).2.1)) (fun op' i hd' kn' hi ti c' => by
      have := ih (t + 1) D _ _ hd' kn' op' (by omega) (by omega) (pOk_sw ok hp hi (tkB_parts ti).2.1) c' (fun z => absurd z (by omega))
      rw [if_neg (show ¬ t + 1 = 0 by omega)] at this
      exact this) _ op n 0 F ((trn n w m (t + 1) h k).1, -9) (by omega) (by omega) (trn_ok m (t + 1) h k ok)).trans ?_
    by_cases e : t = 0
    · rw [if_pos e, if_pos (show Int32.ofNat t = 0 by rw [e]; rfl)]; rfl
    · rw [if_neg e, if_neg (show ¬ Int32.ofNat t = 0 from fun z => e ((z_eq (a := t) (b := 0) (by omega) (by omega)).mp z))]; rfl
theorem aC_play {n F : Nat} {h k w : Nat → Nat} {hd kn wo : Nat → Int32} (ok : pOk n h k) (c : pC n h k hd kn) (hw : wOk n w wo) (h0 : 0 < n) {K : Nat} (hK : K ≤ 6) (hF : 6 ≤ F) (a b : Int32) : fX8_play F a b (Int32.ofNat n) hd kn wo (Int32.ofNat K) = some ((trn n w K 0 h k).2, Int32.ofNat (pkN (trn n w K 0 h k).1 n), hd, kn) := by
  unfold fX8_play
  rw [show (0 : Int32) = Int32.ofNat 0 from rfl, aC_best hw h0 hK hF K 0 20 h k hd kn (-9) (by omega) (by omega) ok c (fun _ => rfl), if_pos rfl]; rfl
theorem aC_play0 {F : Nat} {h k w : Nat → Nat} {hd kn wo : Nat → Int32} (ok : pOk 0 h k) (c : pC 0 h k hd kn) {K : Nat} (hK : K ≤ 6) (hK1 : 1 ≤ K) (hF : 6 ≤ F) (a b : Int32) : fX8_play F a b (Int32.ofNat 0) hd kn wo (Int32.ofNat K) = some (-9, 0, hd, kn) := by
  unfold fX8_play
  show nh_b4 (fX8_bestEnd_R _ _ _ _ _ _ _ _ _) _ = _
  unfold fX8_bestEnd_R
  rw [if_neg (show ¬ Int32.ofNat K ≤ 0 from fun z => absurd ((z_le (a := K) (b := 0) (by omega) (by omega)).mp z) (by omega)), if_neg (by decide), if_neg (by decide), aC_allThings ok c hF]; rfl
