/-! acts: codes on one side, rows on the other -/
def actB (n : Nat) (h0 k0 h k : Nat → Nat) (c : Int32) : Prop := (∃ p q, p < q ∧ q < n ∧ canB h0 k0 p q = true ∧ c = Int32.ofNat (10 * p + q) ∧ ∀ x, x < n → h x = swH h0 p q x ∧ k x = swK h0 k0 p q x) ∨ (∃ p s, p < n ∧ s < 6 ∧ h0 p = s ∧ c = Int32.ofNat (100 + 10 * p + s) ∧ ∀ x, x < n → h x = (if x = p then 6 else h0 x) ∧ k x = k0 x)
def aCh (n : Nat) (row rows : Nat → Int32) : Nat → (Nat → Nat) → (Nat → Nat) → Prop
  | 0, _, _ => True
  | a + 1, h, k => ∃ h0 k0, pOk n h0 k0 ∧ (∀ p, p < n → rows (8 * a + p) = Int32.ofNat (h0 p) ∧ rows (8 * a + 4 + p) = Int32.ofNat (k0 p)) ∧ actB n h0 k0 h k (row a) ∧ aCh n row rows a h0 k0
def aOk (n a : Nat) (row rows : Nat → Int32) (h k : Nat → Nat) : Prop := 2 * a + remS k n + 2 * smN (holB h) n ≤ 32 ∧ aCh n row rows a h k
theorem aCh_frame {n : Nat} (hn : n ≤ 4) {row row' rows rows' : Nat → Int32} : ∀ (a : Nat) (h k : Nat → Nat), (∀ i, i < a → row' i = row i) → (∀ q, q < 8 * a → rows' q = rows q) → aCh n row rows a h k → aCh n row' rows' a h k
  | 0, _, _, _, _, _ => trivial
  | a + 1, h, k, e1, e2, ⟨h0, k0, o1, o2, o3, o4⟩ => by
    refine ⟨h0, k0, o1, fun p hp => ?_, ?_, aCh_frame hn a h0 k0 (fun i hi => e1 i (by omega)) (fun q hq => e2 q (by omega)) o4⟩
    · rw [e2 _ (by omega), e2 _ (by omega)]; exact o2 p hp
    · rw [e1 a (by omega)]; exact o3
theorem smN_up {g : Nat → Nat} {p y : Nat} : ∀ n, p < n → smN (fun x => if x = p then y else g x) n + g p = smN g n + y
  | 0, h => absurd h (by omega)
  | n + 1, h => by
    show smN (fun x => if x = p then y else g x) n + (if n = p then y else g n) + g p = smN g n + g n + y
    by_cases e : n = p
    · subst e
      rw [if_pos rfl, smN_congr (g' := g) n (fun i hi => if_neg (by omega))]
      omega
    · rw [if_neg e]
      have := smN_up (g := g) (y := y) n (show p < n by omega)
      omega
theorem holB_eq {h : Nat → Nat} {x v : Nat} (e : h x = v) : holB h x = bN (decide (v < 6)) := by unfold holB; rw [e]
theorem holB_le (h : Nat → Nat) (p : Nat) : holB h p ≤ 1 := bN_le _
theorem smN_le1 {g : Nat → Nat} (hg : ∀ p, g p ≤ 1) : ∀ n, smN g n ≤ n
  | 0 => Nat.le_refl _
  | n + 1 => by
    show smN g n + g n ≤ n + 1
    have := smN_le1 hg n
    have := hg n
    omega
theorem aOk_0 {n : Nat} (hn : n ≤ 4) (row rows : Nat → Int32) (h k : Nat → Nat) : aOk n 0 row rows h k := by
  refine ⟨?_, trivial⟩
  have := rem24 hn k
  have := smN_le1 (holB_le h) n
  omega
theorem canB_comm (h k : Nat → Nat) (p q : Nat) : canB h k p q = canB h k q p := by
  unfold canB
  cases decide (h p < 6) <;> cases decide (h q < 6) <;> cases (k p).testBit (h q) <;> cases (k q).testBit (h p) <;> rfl
theorem swH_comm (h : Nat → Nat) {p q : Nat} (e : p ≠ q) (x : Nat) : swH h p q x = swH h q p x := by
  unfold swH
  by_cases h1 : x = p
  · subst h1; rw [if_pos rfl, if_neg e, if_pos rfl]
  · rw [if_neg h1]
    by_cases h2 : x = q
    · rw [if_pos h2, if_pos h2]
    · rw [if_neg h2, if_neg h2, if_neg h1]
theorem swK_comm (h k : Nat → Nat) {p q : Nat} (e : p ≠ q) (x : Nat) : swK h k p q x = swK h k q p x := by
  unfold swK
  by_cases h1 : x = p
  · subst h1; rw [if_pos rfl, if_neg e, if_pos rfl]
  · rw [if_neg h1]
    by_cases h2 : x = q
    · rw [if_pos h2, if_pos h2]
    · rw [if_neg h2, if_neg h2, if_neg h1]
theorem hol_sw {n : Nat} {h k : Nat → Nat} {i j : Nat} (hc : canB h k i j = true) : smN (holB (swH h i j)) n = smN (holB h) n := by
  obtain ⟨h1, h2, -, -⟩ := canB_parts hc
  refine smN_congr n (fun p _ => ?_)
  unfold holB swH
  by_cases e1 : p = i
  · rw [if_pos e1, e1, decide_eq_true h1, decide_eq_true h2]
  · rw [if_neg e1]
    by_cases e2 : p = j
    · rw [if_pos e2, e2, decide_eq_true h1, decide_eq_true h2]
    · rw [if_neg e2]
theorem z_told : ∀ p : Nat, p < 4 → ∀ q : Nat, q < 4 → fX10_told (Int32.ofNat p) (Int32.ofNat q) = Int32.ofNat (if p < q then 10 * p + q else 10 * q + p) := by decide +kernel
theorem aC_add {a : Nat} (ha : a < 16) (row : Nat → Int32) (c : Int32) : fX0_add (Int32.ofNat a) row c = some (Int32.ofNat (a + 1), upd row a c) := by
  unfold fX0_add
  rw [if_pos (show Int32.ofNat a < 16 from (z_lt (a := a) (b := 16) (by omega) (by omega)).mpr ha), z_chk ha (by omega), z_ix (by omega)]
  simp only [nh_let, z_succ]
theorem mM_note_loop {had holds : Nat → Int32} {a : Nat} (ha : a < 16) (kk : Int32 → (Nat → Int32) → Option (Int32 × (Nat → Int32))) : ∀ (j i N : Nat) (rows : Nat → Int32), i + j = 4 → j < N → (∀ p, p < i → rows (8 * a + p) = holds p ∧ rows (8 * a + 4 + p) = had p) → ∃ rows', fX11_note_L50 had holds (Int32.ofNat a) kk N (Int32.ofNat i) rows = kk 4 rows' ∧ (∀ p, p < 4 → rows' (8 * a + p) = holds p ∧ rows' (8 * a + 4 + p) = had p) ∧ ∀ q, q < 8 * a → rows' q = rows q := by
  intro j
  induction j with
  | zero =>
    intro i N rows hi hN e
    obtain ⟨N, rfl⟩ : ∃ M, N = M + 1 := ⟨N - 1, by omega⟩
    refine ⟨rows, ?_, fun p hp => e p (by omega), fun _ _ => rfl⟩
    show fX11_note_B50 _ _ _ _ _ _ _ = _
    unfold fX11_note_B50
    rw [show i = 4 by omega, if_pos (by decide)]; rfl
  | succ j ih =>
    intro i N rows hi hN e
    obtain ⟨N, rfl⟩ : ∃ M, N = M + 1 := ⟨N - 1, by omega⟩
    obtain ⟨rows', e1, e2, e3⟩ := ih (i + 1) N (upd (upd rows (8 * a + i) (holds i)) (8 * a + 4 + i) (had i)) (by omega) (by omega) (fun p hp => by
      by_cases g : p = i
      · subst g; rw [upd_same, upd_ne (by omega), upd_same]; exact ⟨rfl, rfl⟩
      · rw [upd_ne (by omega), upd_ne (by omega), upd_ne (by omega), upd_ne (by omega)]; exact e p (by omega))
    refine ⟨rows', ?_, e2, fun q hq => by rw [e3 q hq, upd_ne (by omega), upd_ne (by omega)]⟩
    show fX11_note_B50 _ _ _ _ _ _ _ = _
    unfold fX11_note_B50
    rw [if_neg (show ¬ (4 : Int32) ≤ Int32.ofNat i from fun z => absurd ((z_le (a := 4) (b := i) (by omega) (by omega)).mp z) (by omega))]
    simp only [z_row8, z_row84, z_chk (show i < 56 by omega) (show 56 < 2147483648 by omega), z_chk (show 8 * a + i < 128 by omega) (show 128 < 2147483648 by omega), z_chk (show 8 * a + 4 + i < 128 by omega) (show 128 < 2147483648 by omega), z_ix (show i < 2147483648 by omega), z_ix (show 8 * a + i < 2147483648 by omega), z_ix (show 8 * a + 4 + i < 2147483648 by omega), nh_let, z_succ]
    exact e1
theorem mM_note {had holds rows : Nat → Int32} {a F : Nat} (ha : a < 16) (hF : 6 ≤ F) : ∃ rows', fX11_note F (Int32.ofNat a) had holds rows = some (Int32.ofNat (a + 1), rows') ∧ (∀ p, p < 4 → rows' (8 * a + p) = holds p ∧ rows' (8 * a + 4 + p) = had p) ∧ ∀ q, q < 8 * a → rows' q = rows q := by
  obtain ⟨rows', e1, e2, e3⟩ := mM_note_loop (had := had) (holds := holds) ha (fun x1_5 t_rows_6 => nh_let (α := Int32) ((Int32.ofNat a + 1)) (fun y_15 => some (y_15, t_rows_6))) 4 0 F rows (by omega) (by omega) (fun p hp => absurd hp (Nat.not_lt_zero p))
  refine ⟨rows', ?_, e2, e3⟩
  unfold fX11_note
  rw [if_neg (show ¬ Int32.ofNat a = 16 from fun z => absurd ((z_eq (a := a) (b := 16) (by omega) (by omega)).mp z) (by omega))]
  unfold fX11_note_J48
  refine (show _ = _ from e1).trans ?_
  simp only [nh_let, z_succ]
theorem z_more {x y u v : Int32} (e : x + u = y + v) : x - y + 100 = 100 + v - u := by grind
section ACTS
variable {n a : Nat} {h k w : Nat → Nat} {hd kn wo wm had holds row rows : Nat → Int32}
theorem aCh_push (hn : n ≤ 4) {h' k' : Nat → Nat} (ok : pOk n h k) (cm : pM n h k had holds 0) (o : aCh n row rows a h k) {rows' : Nat → Int32} {c : Int32} (e2 : ∀ p, p < 4 → rows' (8 * a + p) = holds p ∧ rows' (8 * a + 4 + p) = had p) (e3 : ∀ q, q < 8 * a → rows' q = rows q) (b : actB n h k h' k' c) : aCh n (upd row a c) rows' (a + 1) h' k' := by
  refine ⟨h, k, ok, fun p hp => ?_, by rw [upd_same]; exact b, aCh_frame hn a h k (fun i hi => upd_ne (by omega)) e3 o⟩
  have := cm p hp
  rw [Nat.mul_zero, Nat.zero_add] at this
  rw [(e2 p (by omega)).1, (e2 p (by omega)).2]; exact this
theorem sm_sw {p q : Nat} (hp : p < n) (hq : q < n) (hpq : p ≠ q) : smN (fun x => wv w x (swH h p q x)) n + (wv w p (h p) + wv w q (h q)) = smN (fun x => wv w x (h x)) n + (wv w p (h q) + wv w q (h p)) := by
  have e1 := smN_up (g := fun x => wv w x (h x)) (y := wv w p (h q)) n hp
  have e2 := smN_up (g := fun x => if x = p then wv w p (h q) else wv w x (h x)) (y := wv w q (h p)) n hq
  have e3 : smN (fun x => wv w x (swH h p q x)) n = smN (fun x => if x = q then wv w q (h p) else (if x = p then wv w p (h q) else wv w x (h x))) n := by
    refine smN_congr n (fun x _ => ?_)
    unfold swH
    by_cases g1 : x = p
    · rw [if_pos g1, g1, if_neg hpq, if_pos rfl]
    · rw [if_neg g1]
      by_cases g2 : x = q
      · rw [if_pos g2, if_pos g2, g2]
      · rw [if_neg g2, if_neg g2, if_neg g1]
  rw [e3]
  rw [if_neg (Ne.symm hpq)] at e2
  omega
theorem pair_exchange (ok : pOk n h k) (c : pC n h k hd kn) (cm : pM n h k had holds 0) (hw : wOk n w wo) (hm : wOk n w wm) (o : aOk n a row rows h k) {F : Nat} (hF : 10 ≤ F) (x y th : Int32) : ∃ (r : Int32) (a' : Nat) (h' k' : Nat → Nat) (row' rows' hd' kn' had' holds' : Nat → Int32), fX10_exchange F (Int32.ofNat a) row (Int32.ofNat n) hd kn wo x y = some (r, Int32.ofNat a', row', hd', kn') ∧ fX11_exchange F th (Int32.ofNat n) (Int32.ofNat a) had holds rows wm x y = some (r, 0, Int32.ofNat a', had', holds', rows') ∧ pOk n h' k' ∧ pC n h' k' hd' kn' ∧ pM n h' k' had' holds' 0 ∧ aOk n a' row' rows' h' k' := by
  have hn := ok.1
  unfold fX10_exchange fX11_exchange
  rcases mM_noOne_or hn x with ⟨e1, e2⟩ | ⟨p, hp, rfl, e1, e2⟩
  · exact ⟨-1, a, h, k, row, rows, hd, kn, had, holds, by rw [e2, if_pos rfl], by rw [e1, if_neg (by decide)], ok, c, cm, o⟩
  · rcases mM_noOne_or hn y with ⟨f1, f2⟩ | ⟨q, hq, rfl, f1, f2⟩
    · exact ⟨-1, a, h, k, row, rows, hd, kn, had, holds, by rw [e2, if_neg (by decide), f2, if_pos rfl], by rw [e1, if_pos rfl, f1, if_neg (by decide)], ok, c, cm, o⟩
    · rw [e1, e2, f1, f2, if_neg (by decide), if_neg (by decide), if_pos rfl, if_pos rfl]
      by_cases e : Int32.ofNat p = Int32.ofNat q
      · exact ⟨-2, a, h, k, row, rows, hd, kn, had, holds, by rw [if_pos e], by rw [if_pos e], ok, c, cm, o⟩
      · rw [if_neg e, if_neg e, aC_can ok c hp hq, show (fX11_mayAt had holds 0 (Int32.ofNat p) (Int32.ofNat q)) = _ from mM_may ok cm (by omega) hp hq]
        simp only [nh_b1]
        have hpq : p ≠ q := fun z => e (by rw [z])
        by_cases hc : canB h k p q = true
        · rw [hc, if_neg (by decide), if_neg (by decide)]
          have hrem := rem_sw ok hp hq hc
          have hhol := hol_sw (n := n) hc
          have hok := pOk_sw ok hp hq hc
          have ha : a < 16 := by have := o.1; omega
          obtain ⟨hd', kn', s1, s2, s3, s4⟩ := aC_swap ok c hp hq hc
          obtain ⟨rows', n1, n2, n3⟩ := mM_note (had := had) (holds := holds) (rows := rows) (F := F) ha (by omega)
          obtain ⟨had', holds', g1, g2, g3⟩ := mM_go ok cm (by omega) hp hq hc
          have g1 : fX11_goAt had holds 0 (Int32.ofNat p) (Int32.ofNat q) = some (had', holds') := g1
          have cp := cm p hp
          have cq := cm q hq
          have gp := g2 p hp
          have gq := g2 q hq
          rw [Nat.mul_zero, Nat.zero_add] at cp cq gp gq
          have hsp : swH h p q p = h q := if_pos rfl
          have hsq : swH h p q q = h p := by unfold swH; rw [if_neg (Ne.symm hpq), if_pos rfl]
          have w1 := mM_worth hn hm hp (ok.2 p hp).1
          have w2 := mM_worth hn hm hq (ok.2 q hq).1
          have w3 := mM_worth hn hm hp (ok.2 q hq).1
          have w4 := mM_worth hn hm hq (ok.2 p hp).1
          have hsum := sm_sw (w := w) (h := h) hp hq hpq
          refine ⟨Int32.ofNat (smN (fun x => wv w x (swH h p q x)) n) - Int32.ofNat (smN (fun x => wv w x (h x)) n) + 100, a + 1, swH h p q, swK h k p q, upd row a (Int32.ofNat (if p < q then 10 * p + q else 10 * q + p)), rows', hd', kn', had', holds', ?_, ?_, hok, s2, g2, ?_, ?_⟩
          · rw [aC_wealth ok c hw (by omega), s1]
            simp only [nh_b1, nh_b2]
            unfold fX0_addExchange
            rw [z_told p (by omega) q (by omega), aC_add ha]
            simp only [nh_b2]
            rw [aC_wealth hok s2 hw (by omega)]
          · rw [n1]
            simp only [nh_b2, z_chk (show p < 56 by omega) (show 56 < 2147483648 by omega), z_chk (show q < 56 by omega) (show 56 < 2147483648 by omega), z_ix (show p < 2147483648 by omega), z_ix (show q < 2147483648 by omega), cp.1, cq.1, w1, w2, nh_b1, nh_let, g1, gp.1, gq.1, hsp, hsq, w3, w4]
            have ee : Int32.ofNat (smN (fun x => wv w x (swH h p q x)) n) + (Int32.ofNat (wv w p (h p)) + Int32.ofNat (wv w q (h q))) = Int32.ofNat (smN (fun x => wv w x (h x)) n) + (Int32.ofNat (wv w p (h q)) + Int32.ofNat (wv w q (h p))) := by
              rw [z_add, z_add, z_add, z_add, hsum]
            rw [z_more ee, ← Int32.add_assoc]
            rfl
          · have := o.1
            rw [hhol]
            omega
          · refine aCh_push hn ok cm o.2 n2 n3 (Or.inl ?_)
            by_cases hlt : p < q
            · rw [if_pos hlt]
              exact ⟨p, q, hlt, hq, hc, rfl, fun x _ => ⟨rfl, rfl⟩⟩
            · rw [if_neg hlt]
              exact ⟨q, p, by omega, hp, by rw [canB_comm]; exact hc, rfl, fun x _ => ⟨swH_comm h hpq x, swK_comm h k hpq x⟩⟩
        · rw [show canB h k p q = false by simpa using hc, if_pos (by decide), if_pos (by decide)]
          exact ⟨-3, a, h, k, row, rows, hd, kn, had, holds, rfl, rfl, ok, c, cm, o⟩
theorem pair_sea (ok : pOk n h k) (c : pC n h k hd kn) (cm : pM n h k had holds 0) (o : aOk n a row rows h k) {F : Nat} (hF : 10 ≤ F) (x th : Int32) : ∃ (r : Int32) (a' : Nat) (h' : Nat → Nat) (row' rows' hd' holds' : Nat → Int32), fX10_sea F (Int32.ofNat a) row (Int32.ofNat n) hd kn x = some (r, Int32.ofNat a', row', hd') ∧ fX11_sea F th (Int32.ofNat n) (Int32.ofNat a) had holds rows x = some (r, 0, Int32.ofNat a', holds', rows') ∧ pOk n h' k ∧ pC n h' k hd' kn ∧ pM n h' k had holds' 0 ∧ aOk n a' row' rows' h' k := by
  have hn := ok.1
  unfold fX10_sea fX11_sea
  rcases mM_noOne_or hn x with ⟨e1, e2⟩ | ⟨p, hp, rfl, e1, e2⟩
  · exact ⟨-1, a, h, row, rows, hd, holds, by rw [e2, if_pos rfl], by rw [e1, if_neg (by decide)], ok, c, cm, o⟩
  · rw [e2, e1, if_neg (by decide), if_pos rfl, aC_isDead ok c hp (by omega), mM_isDead ok cm hp (by omega)]
    simp only [nh_b1]
    cases hdd : deadB n h k p with
    | false =>
      rw [if_pos (by decide), if_pos (by decide)]
      exact ⟨-3, a, h, row, rows, hd, holds, rfl, rfl, ok, c, cm, o⟩
    | true =>
      rw [if_neg (by decide), if_neg (by decide)]
      have h6 : h p < 6 := by
        unfold deadB at hdd
        rw [Bool.and_eq_true] at hdd
        exact of_decide_eq_true hdd.1
      have hhol : smN (holB (fun x => if x = p then 6 else h x)) n + 1 = smN (holB h) n := by
        have e := smN_up (g := holB h) (y := 0) n hp
        have e3 : smN (holB (fun x => if x = p then 6 else h x)) n = smN (fun x => if x = p then 0 else holB h x) n := smN_congr n (fun x _ => by
          by_cases g : x = p
          · rw [holB_eq (h := fun x => if x = p then 6 else h x) (v := 6) (if_pos g), if_pos g]; rfl
          · rw [holB_eq (h := fun x => if x = p then 6 else h x) (v := h x) (if_neg g), if_neg g]; rfl)
        rw [e3]
        have e4 : holB h p = 1 := by unfold holB; rw [decide_eq_true h6]; rfl
        omega
      have ha : a < 16 := by have := o.1; omega
      obtain ⟨rows', n1, n2, n3⟩ := mM_note (had := had) (holds := holds) (rows := rows) (F := F) ha (by omega)
      have cp := (cm p hp).1
      rw [Nat.mul_zero, Nat.zero_add] at cp
      have ec : (100 : Int32) + 10 * Int32.ofNat p + Int32.ofNat (h p) = Int32.ofNat (100 + 10 * p + h p) := by
        rw [show (100 : Int32) = Int32.ofNat 100 from rfl, show (10 : Int32) = Int32.ofNat 10 from rfl, z_mul, z_add, z_add]
      refine ⟨Int32.ofNat (h p), a + 1, fun x => if x = p then 6 else h x, upd row a (Int32.ofNat (100 + 10 * p + h p)), rows', upd hd p (-9), upd holds p 6, ?_, ?_, ⟨hn, fun x hx => ?_⟩, fun x hx => ?_, fun x hx => ?_, ?_, ?_⟩
      · rw [z_chk (show p < 4 by omega) (by omega), z_ix (by omega), (c p hp).1, cH_lt h6]
        simp only [nh_let, z_chk (show p < 4 by omega) (show 4 < 2147483648 by omega)]
        unfold fX0_addSea
        rw [ec, aC_add ha]
        rfl
      · rw [n1]
        simp only [nh_b2, nh_let, z_chk (show p < 56 by omega) (show 56 < 2147483648 by omega), z_ix (show p < 2147483648 by omega), cp]
      · try dsimp only
        by_cases g : x = p
        · rw [if_pos g]; exact ⟨Nat.le_refl _, (ok.2 x hx).2.1, fun z => absurd z (by omega)⟩
        · rw [if_neg g]; exact ok.2 x hx
      · try dsimp only
        by_cases g : x = p
        · subst g; rw [upd_same, if_pos rfl]; exact ⟨rfl, (c x hx).2⟩
        · rw [upd_ne g, if_neg g]; exact c x hx
      · try dsimp only
        have := cm x hx
        rw [Nat.mul_zero, Nat.zero_add] at this ⊢
        by_cases g : x = p
        · subst g; rw [upd_same, if_pos rfl]; exact ⟨rfl, this.2⟩
        · rw [upd_ne g, if_neg g]; exact this
      · have := o.1
        omega
      · exact aCh_push hn ok cm o.2 n2 n3 (Or.inr ⟨p, h p, hp, h6, rfl, rfl, fun x _ => ⟨rfl, rfl⟩⟩)
theorem z_c10 : ∀ c : Nat, c < 40 → Int32.ofNat c / 10 = Int32.ofNat (c / 10) ∧ Int32.ofNat c - Int32.ofNat c / 10 * 10 = Int32.ofNat (c % 10) := by decide +kernel
theorem z_s10 : ∀ p : Nat, p < 4 → ∀ s : Nat, s < 6 → (Int32.ofNat (100 + 10 * p + s) - 100) / 10 = Int32.ofNat p ∧ Int32.ofNat (100 + 10 * p + s) - Int32.ofNat (100 + 10 * p + s) / 10 * 10 = Int32.ofNat s := by decide +kernel
theorem aC_back {h0 k0 : Nat → Nat} (ok : pOk n h0 k0) (c : pC n h k hd kn) {i j : Nat} (hi : i < n) (hj : j < n) (hc : canB h0 k0 i j = true) (e : ∀ x, x < n → h x = swH h0 i j x ∧ k x = swK h0 k0 i j x) : ∃ hd' kn', fX1_swapBack (Int32.ofNat n) hd kn (Int32.ofNat i) (Int32.ofNat j) = some (hd', kn') ∧ pC n h0 k0 hd' kn' := by
  obtain ⟨hn, hv⟩ := id ok
  have vi := hv i hi
  have vj := hv j hj
  obtain ⟨h1, h2, h3, h4⟩ := canB_parts hc
  have hij := canB_ne ok hi hc
  have ei : h i = h0 j := by rw [(e i hi).1]; exact if_pos rfl
  have ej : h j = h0 i := by rw [(e j hj).1]; unfold swH; rw [if_neg (Ne.symm hij), if_pos rfl]
  have fi : k i = k0 i ||| 2 ^ h0 j := by rw [(e i hi).2]; exact if_pos rfl
  have fj : k j = k0 j ||| 2 ^ h0 i := by rw [(e j hj).2]; unfold swK; rw [if_neg (Ne.symm hij), if_pos rfl]
  refine ⟨upd (upd hd i (hd j)) j (hd i), upd (upd kn i (Int32.ofNat (k0 i))) j (Int32.ofNat (k0 j)), ?_, fun p hp => ?_⟩
  · unfold fX1_swapBack
    rw [aC_has1 hn hi, aC_has1 hn hj, if_neg (by decide), if_neg (by decide)]
    simp only [aC_cross (show i < 4 by omega) (show j < 4 by omega), nh_b1, z_chk (show i < 4 by omega) (by omega), z_chk (show j < 4 by omega) (by omega), nh_let, z_ix (show i < 2147483648 by omega), z_ix (show j < 2147483648 by omega)]
    rw [upd_ne (Ne.symm hij), (c i hi).1, (c i hi).2, (c j hj).1, (c j hj).2, ei, ej, fi, fj, aC_bit _ (by omega), aC_bit _ (by omega), if_neg (by omega), if_neg (by omega), z_off _ vi.2.1 _ h2 h3, z_off _ vj.2.1 _ h1 h4]
  · by_cases g : p = j
    · subst g
      rw [upd_same, upd_same, (c i hi).1, ei]; exact ⟨rfl, rfl⟩
    · rw [upd_ne g, upd_ne g]
      by_cases g2 : p = i
      · subst g2
        rw [upd_same, upd_same, (c j hj).1, ej]; exact ⟨rfl, rfl⟩
      · rw [upd_ne g2, upd_ne g2, (c p hp).1, (c p hp).2, (e p hp).1, (e p hp).2]
        unfold swH swK
        rw [if_neg g2, if_neg g, if_neg g2, if_neg g]; exact ⟨rfl, rfl⟩
theorem mM_undo_loop {b : Nat} (hb : b < 16) (kk : Int32 → (Nat → Int32) → (Nat → Int32) → Option (Int32 × Int32 × Int32 × (Nat → Int32) × (Nat → Int32))) : ∀ (j i N : Nat) (had holds : Nat → Int32), i + j = 4 → j < N → (∀ p, p < i → holds p = rows (8 * b + p) ∧ had p = rows (8 * b + 4 + p)) → ∃ had' holds', fX11_undo_L27 rows (Int32.ofNat b) kk N (Int32.ofNat i) had holds = kk 4 had' holds' ∧ (∀ p, p < 4 → holds' p = rows (8 * b + p) ∧ had' p = rows (8 * b + 4 + p)) := by
  intro j
  induction j with
  | zero =>
    intro i N had holds hi hN e
    obtain ⟨N, rfl⟩ : ∃ M, N = M + 1 := ⟨N - 1, by omega⟩
    refine ⟨had, holds, ?_, fun p hp => e p (by omega)⟩
    show fX11_undo_B27 _ _ _ _ _ _ _ = _
    unfold fX11_undo_B27
    rw [show i = 4 by omega, if_pos (by decide)]; rfl
  | succ j ih =>
    intro i N had holds hi hN e
    obtain ⟨N, rfl⟩ : ∃ M, N = M + 1 := ⟨N - 1, by omega⟩
    obtain ⟨had', holds', e1, e2⟩ := ih (i + 1) N (upd had i (rows (8 * b + 4 + i))) (upd holds i (rows (8 * b + i))) (by omega) (by omega) (fun p hp => by
      by_cases g : p = i
      · subst g; rw [upd_same, upd_same]; exact ⟨rfl, rfl⟩
      · rw [upd_ne g, upd_ne g]; exact e p (by omega))
    refine ⟨had', holds', ?_, e2⟩
    show fX11_undo_B27 _ _ _ _ _ _ _ = _
    unfold fX11_undo_B27
    rw [if_neg (show ¬ (4 : Int32) ≤ Int32.ofNat i from fun z => absurd ((z_le (a := 4) (b := i) (by omega) (by omega)).mp z) (by omega))]
    simp only [z_row8, z_row84, z_chk (show i < 56 by omega) (show 56 < 2147483648 by omega), z_chk (show 8 * b + i < 128 by omega) (show 128 < 2147483648 by omega), z_chk (show 8 * b + 4 + i < 128 by omega) (show 128 < 2147483648 by omega), z_ix (show i < 2147483648 by omega), z_ix (show 8 * b + i < 2147483648 by omega), z_ix (show 8 * b + 4 + i < 2147483648 by omega), nh_let, z_succ]
    exact e1
theorem pair_undo (ok : pOk n h k) (c : pC n h k hd kn) (cm : pM n h k had holds 0) (o : aOk n a row rows h k) {F : Nat} (hF : 10 ≤ F) (th : Int32) : ∃ (r : Int32) (a' : Nat) (h' k' : Nat → Nat) (hd' kn' had' holds' : Nat → Int32), fX10_undo (Int32.ofNat a) row (Int32.ofNat n) hd kn = some (r, Int32.ofNat a', hd', kn') ∧ fX11_undo F th (Int32.ofNat a) had holds rows = some (r, 0, Int32.ofNat a', had', holds') ∧ pOk n h' k' ∧ pC n h' k' hd' kn' ∧ pM n h' k' had' holds' 0 ∧ aOk n a' row rows h' k' := by
  have hn := ok.1
  unfold fX10_undo fX11_undo
  cases a with
  | zero => exact ⟨-3, 0, h, k, hd, kn, had, holds, if_pos rfl, if_pos rfl, ok, c, cm, o⟩
  | succ b =>
    obtain ⟨ob, h0, k0, ok0, er, ac, ch⟩ := o
    have hb : b < 16 := by omega
    have hne : ¬ Int32.ofNat (b + 1) = 0 := fun z => absurd ((z_eq (a := b + 1) (b := 0) (by omega) (by omega)).mp z) (by omega)
    have hsub : Int32.ofNat (b + 1) - 1 = Int32.ofNat b := by rw [show (1 : Int32) = Int32.ofNat 1 from rfl, z_sub (by omega), Nat.add_sub_cancel]
    obtain ⟨had', holds', g1, g2⟩ := mM_undo_loop (rows := rows) hb (fun x1_6 t_had_7 t_holds_8 => some (Int32.ofNat b, 0, Int32.ofNat b, t_had_7, t_holds_8)) 4 0 F had holds (by omega) (by omega) (fun p hp => absurd hp (Nat.not_lt_zero p))
    have pm : pM n h0 k0 had' holds' 0 := fun p hp => by
      rw [Nat.mul_zero, Nat.zero_add, (g2 p (by omega)).1, (g2 p (by omega)).2]; exact er p hp
    have cls : ∃ hd' kn', fX0_undoLast (Int32.ofNat (b + 1)) row (Int32.ofNat n) hd kn = some (Int32.ofNat b, hd', kn') ∧ pC n h0 k0 hd' kn' ∧ 2 * b + remS k0 n + 2 * smN (holB h0) n ≤ 32 := by
      unfold fX0_undoLast
      rw [if_neg hne, hsub]
      simp only [nh_let, z_chk hb (show 16 < 2147483648 by omega), z_ix (show b < 2147483648 by omega)]
      rcases ac with ⟨p, q, hpq, hq, hc, ec, ex⟩ | ⟨p, s, hp, hs, eh, ec, ex⟩
      · obtain ⟨z1, z2⟩ := z_c10 (10 * p + q) (by omega)
        rw [show (10 * p + q) / 10 = p by omega] at z1
        rw [show (10 * p + q) % 10 = q by omega] at z2
        obtain ⟨hd', kn', s1, s2⟩ := aC_back ok0 c (show p < n by omega) hq hc ex
        rw [ec, if_neg (show ¬ (100 : Int32) ≤ Int32.ofNat (10 * p + q) from fun z => absurd ((z_le (a := 100) (b := 10 * p + q) (by omega) (by omega)).mp z) (by omega)), z2, z1, s1]
        refine ⟨hd', kn', rfl, s2, ?_⟩
        have hrem := rem_sw ok0 (show p < n by omega) hq hc
        have hhol := hol_sw (n := n) hc
        have r1 : remS k n = remS (swK h0 k0 p q) n := remS_congr n (fun x hx => (ex x hx).2)
        have r2 : smN (holB h) n = smN (holB (swH h0 p q)) n := smN_congr n (fun x hx => by unfold holB; rw [(ex x hx).1])
        omega
      · obtain ⟨z1, z2⟩ := z_s10 p (by omega) s hs
        rw [ec, if_pos (show (100 : Int32) ≤ Int32.ofNat (100 + 10 * p + s) from (z_le (a := 100) (b := 100 + 10 * p + s) (by omega) (by omega)).mpr (by omega)), z1, z2, aC_has1 hn hp, if_neg (by decide), z_chk (show p < 4 by omega) (by omega), z_ix (by omega)]
        refine ⟨upd hd p (Int32.ofNat s), kn, rfl, fun x hx => ?_, ?_⟩
        · by_cases g : x = p
          · subst g
            rw [upd_same, eh, cH_lt hs, (c x hx).2, (ex x hx).2]; exact ⟨rfl, rfl⟩
          · rw [upd_ne g, (c x hx).1, (c x hx).2, (ex x hx).1, (ex x hx).2, if_neg g]; exact ⟨rfl, rfl⟩
        · have r1 : remS k n = remS k0 n := remS_congr n (fun x hx => (ex x hx).2)
          have e := smN_up (g := holB h0) (y := 0) n hp
          have e3 : smN (holB h) n = smN (fun x => if x = p then 0 else holB h0 x) n := smN_congr n (fun x hx => by
            unfold holB
            rw [(ex x hx).1]
            by_cases g : x = p
            · rw [if_pos g, if_pos g]; rfl
            · rw [if_neg g, if_neg g])
          have e4 : holB h0 p = 1 := by unfold holB; rw [eh, decide_eq_true hs]; rfl
          omega
    obtain ⟨hd', kn', s1, s2, s3⟩ := cls
    refine ⟨Int32.ofNat b, b, h0, k0, hd', kn', had', holds', ?_, ?_, ok0, s2, pm, s3, ch⟩
    · rw [if_neg hne, s1]; rfl
    · rw [if_neg hne, hsub]
      simp only [nh_let]
      exact g1
end ACTS
