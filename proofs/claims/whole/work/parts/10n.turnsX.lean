/-! turns: the reference's descent -/
def cst (n : Nat) (h k w : Nat → Nat) (p : Nat) (C : Nat → Nat) (l : List Nat) : Nat := l.foldr (fun i acc => if tkB h k w p i = true then acc + C i + 1 else acc) 1
def stT (n : Nat) (w : Nat → Nat) : Nat → Nat → (Nat → Nat) → (Nat → Nat) → Nat
  | 0, _, _, _ => 1
  | m + 1, t, h, k => cst n h k w (t % n) (fun i => stT n w m (t + 1) (swH h (t % n) i) (swK h k (t % n) i)) (List.range' 0 n) + stT n w m (t + 1) h k + 1
theorem skip_fold {h k w : Nat → Nat} {p : Nat} {R : Nat → (Nat → Nat)} (b : (Nat → Nat) × Int32) : ∀ (s i j : Nat), (∀ y, i ≤ y → y < i + s → tkB h k w p y = false) → (List.range' i (s + j)).foldl (trS h k w R p) b = (List.range' (i + s) j).foldl (trS h k w R p) b
  | 0, i, j, _ => by rw [Nat.zero_add, Nat.add_zero]
  | s + 1, i, j, H => by
    rw [show s + 1 + j = (s + j) + 1 by omega, List.range'_succ, List.foldl_cons, show trS h k w R p b i = b by unfold trS; rw [H i (by omega) (by omega), if_neg (by decide)], skip_fold b s (i + 1) j (fun y h1 h2 => H y (by omega) (by omega)), show i + 1 + s = i + (s + 1) by omega]
theorem skip_cst {n : Nat} {h k w : Nat → Nat} {p : Nat} {C : Nat → Nat} : ∀ (s i j : Nat), (∀ y, i ≤ y → y < i + s → tkB h k w p y = false) → cst n h k w p C (List.range' i (s + j)) = cst n h k w p C (List.range' (i + s) j)
  | 0, i, j, _ => by rw [Nat.zero_add, Nat.add_zero]
  | s + 1, i, j, H => by
    have e := skip_cst (n := n) (C := C) s (i + 1) j (fun y h1 h2 => H y (by omega) (by omega))
    rw [show s + 1 + j = (s + j) + 1 by omega, List.range'_succ, show i + (s + 1) = i + 1 + s by omega, ← e]
    show (if tkB h k w p i = true then _ else _) = _
    rw [H i (by omega) (by omega), if_neg (by decide)]
    rfl
section DESC
variable {n F K : Nat} {w : Nat → Nat} {wo : Nat → Int32} (kk : Int32 → Int32 → (Nat → Int32) → (Nat → Int32) → (Nat → Int32) → (Nat → Int32) → (Nat → Int32) → (Nat → Int32) → Option ((Nat → Int32) × (Nat → Int32) × (Nat → Int32) × (Nat → Int32) × (Nat → Int32) × (Nat → Int32)))
/-- what follows once a depth is done -/
def finT (n F K : Nat) (wo : Nat → Int32) (kk : Int32 → Int32 → (Nat → Int32) → (Nat → Int32) → (Nat → Int32) → (Nat → Int32) → (Nat → Int32) → (Nat → Int32) → Option ((Nat → Int32) × (Nat → Int32) × (Nat → Int32) × (Nat → Int32) × (Nat → Int32) × (Nat → Int32))) (N d : Nat) (act had holds outcome tried value : Nat → Int32) : Option ((Nat → Int32) × (Nat → Int32) × (Nat → Int32) × (Nat → Int32) × (Nat → Int32) × (Nat → Int32)) :=
  if d = 0 then fX11_goTurns_L19 (Int32.ofNat n) wo (Int32.ofNat K) F kk N 0 1 act had holds outcome tried value
  else nh_b3 (fX11_offer F (Int32.ofNat n) act outcome tried value wo (Int32.ofNat d)) (fun act' outcome' value' => fX11_goTurns_L19 (Int32.ofNat n) wo (Int32.ofNat K) F kk N (Int32.ofNat (d - 1)) 0 act' had holds outcome' tried value')
theorem z_dm {d : Nat} (h : d ≠ 0) : Int32.ofNat d + (-1) = Int32.ofNat (d - 1) := by
  obtain ⟨e, rfl⟩ : ∃ e, d = e + 1 := ⟨d - 1, by omega⟩
  rw [z_dec]; rfl
/-- a depth whose candidates are out -/
theorem mM_out {N d : Nat} (hK : K ≤ 6) (hdK : d < K) {act had holds outcome tried value : Nat → Int32} (e : fX11_nextTurn F (Int32.ofNat n) had holds tried wo (Int32.ofNat d) = some (0, had, holds, tried)) : fX11_goTurns_L19 (Int32.ofNat n) wo (Int32.ofNat K) F kk (N + 1) (Int32.ofNat d) 0 act had holds outcome tried value = finT n F K wo kk N d act had holds outcome tried value := by
  show fX11_goTurns_B19 _ _ _ _ _ (fX11_goTurns_L19 (Int32.ofNat n) wo (Int32.ofNat K) F kk N) _ _ _ _ _ _ _ _ = _
  unfold fX11_goTurns_B19
  rw [if_pos rfl, if_neg (fun z => absurd ((z_le (by omega) (by omega)).mp z) (by omega)), e]
  simp only [nh_b4]
  rw [if_pos trivial]
  unfold fX11_goTurns_J62 finT
  rw [if_neg (fun z => absurd ((z_eq (by omega) (by omega)).mp z) (by omega))]
  by_cases d0 : d = 0
  · subst d0
    rw [if_pos (show Int32.ofNat 0 = 0 from rfl), if_pos rfl]; rfl
  · rw [if_neg (show ¬ Int32.ofNat d = 0 from fun z => d0 ((z_eq (a := d) (b := 0) (by omega) (by omega)).mp z)), if_neg d0, z_dm d0]
    rfl
/-- down to a further depth -/
theorem mM_down {N d : Nat} (hK : K ≤ 6) (hdK : d < K) {act had holds outcome tried value had' holds' tried' : Nat → Int32} (e : fX11_nextTurn F (Int32.ofNat n) had holds tried wo (Int32.ofNat d) = some (1, had', holds', tried')) : fX11_goTurns_L19 (Int32.ofNat n) wo (Int32.ofNat K) F kk (N + 1) (Int32.ofNat d) 0 act had holds outcome tried value = fX11_goTurns_L19 (Int32.ofNat n) wo (Int32.ofNat K) F kk N (Int32.ofNat (d + 1)) 0 act had' holds' outcome (if K ≤ d + 1 then tried' else upd tried' (d + 1) (-9)) (if K ≤ d + 1 then value else upd value (d + 1) (-1)) := by
  show fX11_goTurns_B19 _ _ _ _ _ (fX11_goTurns_L19 (Int32.ofNat n) wo (Int32.ofNat K) F kk N) _ _ _ _ _ _ _ _ = _
  unfold fX11_goTurns_B19
  rw [if_pos rfl, if_neg (fun z => absurd ((z_le (by omega) (by omega)).mp z) (by omega)), e]
  simp only [nh_b4]
  rw [if_neg (by decide)]
  simp only [nh_let, z_succ]
  by_cases g : K ≤ d + 1
  · rw [if_pos ((z_le (by omega) (by omega)).mpr g), if_pos g, if_pos g]
  · rw [if_neg (fun z => g ((z_le (by omega) (by omega)).mp z)), if_neg g, if_neg g, z_chk (show d + 1 < 14 by omega) (by omega), z_chk (show d + 1 < 7 by omega) (by omega), z_ix (by omega)]
/-- the last depth: what is held is the end -/
theorem mM_copy (hn : n ≤ 4) (hK : K ≤ 6) {h k : Nat → Nat} {had holds : Nat → Int32} (c : pM n h k had holds K) : ∀ (j i N : Nat) (outcome : Nat → Int32), i + j = n → j < N → (∀ p, p < i → outcome (4 * K + p) = Int32.ofNat (h p)) → ∃ outcome', (∀ k2 : Int32 → (Nat → Int32) → Option ((Nat → Int32) × (Nat → Int32) × (Nat → Int32) × (Nat → Int32) × (Nat → Int32) × (Nat → Int32)), fX11_goTurns_L70 (Int32.ofNat n) (Int32.ofNat K) holds k2 N (Int32.ofNat i) outcome = k2 (Int32.ofNat n) outcome') ∧ rowO n h outcome' K ∧ ∀ q, q < 4 * K → outcome' q = outcome q := by
  intro j
  induction j with
  | zero =>
    intro i N outcome hi hN h2
    obtain ⟨N, rfl⟩ : ∃ M, N = M + 1 := ⟨N - 1, by omega⟩
    refine ⟨outcome, fun k2 => ?_, fun p hp => h2 p (by omega), fun q _ => rfl⟩
    show fX11_goTurns_B70 _ _ _ _ _ _ _ = _
    unfold fX11_goTurns_B70
    rw [show i = n by omega, if_pos (Int32.le_refl _)]
  | succ j ih =>
    intro i N outcome hi hN h2
    obtain ⟨N, rfl⟩ : ∃ M, N = M + 1 := ⟨N - 1, by omega⟩
    obtain ⟨o', g1, g2, g3⟩ := ih (i + 1) N (upd outcome (4 * K + i) (Int32.ofNat (h i))) (by omega) (by omega) (fun p hp => by
      by_cases q : p = i
      · rw [q, upd_same]
      · rw [upd_ne (show 4 * K + p ≠ 4 * K + i by omega)]; exact h2 p (by omega))
    refine ⟨o', fun k2 => ?_, g2, fun q hq => by rw [g3 q hq, upd_ne (show q ≠ 4 * K + i by omega)]⟩
    rw [← g1 k2]
    show fX11_goTurns_B70 _ _ _ _ _ _ _ = _
    unfold fX11_goTurns_B70
    rw [if_neg (fun z => absurd ((z_le (by omega) (by omega)).mp z) (by omega)), show (4 : Int32) = Int32.ofNat 4 from rfl, z_mul, z_add, z_chk (show 4 * K + i < 56 by omega) (by omega), z_chk (show 4 * K + i < 28 by omega) (by omega), z_ix (by omega), (c i (by omega)).1]
    simp only [nh_let, z_succ]
theorem mM_leaf (hn : n ≤ 4) (hF : 6 ≤ F) (hK : K ≤ 6) (hK1 : 1 ≤ K) {h k : Nat → Nat} {act had holds outcome tried value : Nat → Int32} (c : pM n h k had holds K) : ∃ outcome', (∀ N, fX11_goTurns_L19 (Int32.ofNat n) wo (Int32.ofNat K) F kk (N + 1) (Int32.ofNat K) 0 act had holds outcome tried value = finT n F K wo kk N K act had holds outcome' tried value) ∧ rowO n h outcome' K ∧ ∀ q, q < 4 * K → outcome' q = outcome q := by
  obtain ⟨o', g1, g2, g3⟩ := mM_copy hn hK c n 0 F outcome (by omega) (by omega) (fun p hp => absurd hp (by omega))
  refine ⟨o', fun N => ?_, g2, g3⟩
  show fX11_goTurns_B19 _ _ _ _ _ (fX11_goTurns_L19 (Int32.ofNat n) wo (Int32.ofNat K) F kk N) _ _ _ _ _ _ _ _ = _
  unfold fX11_goTurns_B19
  rw [if_pos rfl, if_pos (Int32.le_refl _)]
  unfold fX11_goTurns_J62 finT
  rw [if_pos rfl, show (0 : Int32) = Int32.ofNat 0 from rfl, g1, if_neg (fun z => absurd ((z_eq (by omega) (by omega)).mp z) (by omega)), if_neg (show ¬ K = 0 by omega), z_dm (by omega)]
  rfl
/-- what a depth leaves as it was -/
def kpt (d : Nat) (act had holds outcome tried value act' had' holds' outcome' tried' value' : Nat → Int32) : Prop :=
  (∀ q, q < 4 * d + 4 → had' q = had q ∧ holds' q = holds q) ∧ (∀ q, q < 4 * d → outcome' q = outcome q) ∧ ∀ q, q < d → tried' q = tried q ∧ value' q = value q ∧ act' q = act q
def childOK (n F K : Nat) (w : Nat → Nat) (wo : Nat → Int32) (kk : Int32 → Int32 → (Nat → Int32) → (Nat → Int32) → (Nat → Int32) → (Nat → Int32) → (Nat → Int32) → (Nat → Int32) → Option ((Nat → Int32) × (Nat → Int32) × (Nat → Int32) × (Nat → Int32) × (Nat → Int32) × (Nat → Int32))) (m d : Nat) : Prop :=
  ∀ (h k : Nat → Nat) (act had holds outcome tried value : Nat → Int32), pOk n h k → pM n h k had holds d → (m ≠ 0 → tried d = -9 ∧ value d = -1) → ∃ act' had' holds' outcome' tried' value', (∀ N, fX11_goTurns_L19 (Int32.ofNat n) wo (Int32.ofNat K) F kk (N + stT n w m d h k) (Int32.ofNat d) 0 act had holds outcome tried value = finT n F K wo kk N d act' had' holds' outcome' tried' value') ∧ rowO n (trn n w m d h k).1 outcome' d ∧ (m ≠ 0 → act' d = cdA (trn n w m d h k).2) ∧ kpt d act had holds outcome tried value act' had' holds' outcome' tried' value'
theorem mM_cands (hn : n ≤ 4) (h0 : 0 < n) (hF : 6 ≤ F) (hw : wOk n w wo) (hK : K ≤ 6) {m d : Nat} (hdm : d + (m + 1) = K) (IH : childOK n F K w wo kk m (d + 1)) {h k : Nat → Nat} (ok : pOk n h k) : ∀ (j i : Nat) (b : (Nat → Nat) × Int32) (act had holds outcome tried value : Nat → Int32), i + j = n → pM n h k had holds d → tried d + 1 = Int32.ofNat i → bS n w d b act outcome value → eOk n b.1 →
    ∃ act' had' holds' outcome' tried' value', (∀ N, fX11_goTurns_L19 (Int32.ofNat n) wo (Int32.ofNat K) F kk (N + cst n h k w (d % n) (fun i => stT n w m (d + 1) (swH h (d % n) i) (swK h k (d % n) i)) (List.range' i j)) (Int32.ofNat d) 0 act had holds outcome tried value = finT n F K wo kk N d act' had' holds' outcome' tried' value') ∧ bS n w d ((List.range' i j).foldl (trS h k w (fun i => (trn n w m (d + 1) (swH h (d % n) i) (swK h k (d % n) i)).1) (d % n)) b) act' outcome' value' ∧ kpt d act had holds outcome tried value act' had' holds' outcome' tried' value' := by
  have hp : d % n < n := Nat.mod_lt _ h0
  intro j
  induction j using Nat.strongRecOn with
  | ind j ih =>
  intro i b act had holds outcome tried value hij c ht hb hbe
  rcases mM_nextTurn (F := F) ok c hw h0 (show d < 13 by omega) hF (show i ≤ n by omega) ht with ⟨none, e⟩ | ⟨x, x1, x2, tk, sk, had1, holds1, e, pm1, keep1⟩
  · refine ⟨act, had, holds, outcome, tried, value, fun N => ?_, ?_, fun q _ => ⟨rfl, rfl⟩, fun q _ => rfl, fun q _ => ⟨rfl, rfl, rfl⟩⟩
    · rw [show j = j + 0 from rfl, skip_cst j i 0 (fun y h1 h2 => none y h1 (by omega))]
      exact mM_out kk hK (by omega) e
    · rw [show j = j + 0 from rfl, skip_fold b j i 0 (fun y h1 h2 => none y h1 (by omega))]
      exact hb
  · obtain ⟨okx1, okx2, okx3⟩ := tkB_parts tk
    have okx : pOk n (swH h (d % n) x) (swK h k (d % n) x) := pOk_sw ok hp x2 okx2
    obtain ⟨t1, ht1⟩ : ∃ t, t = (if K ≤ d + 1 then upd tried d (Int32.ofNat x) else upd (upd tried d (Int32.ofNat x)) (d + 1) (-9)) := ⟨_, rfl⟩
    obtain ⟨v1, hv1⟩ : ∃ t, t = (if K ≤ d + 1 then value else upd value (d + 1) (-1)) := ⟨_, rfl⟩
    have t1e : ∀ q, q < d + 1 → t1 q = upd tried d (Int32.ofNat x) q := fun q hq => by
      rw [ht1]; split
      · rfl
      · rw [upd_ne (by omega)]
    have v1e : ∀ q, q < d + 1 → v1 q = value q := fun q hq => by
      rw [hv1]; split
      · rfl
      · rw [upd_ne (by omega)]
    obtain ⟨act2, had2, holds2, outcome2, tried2, value2, e2, r2, -, k2a, k2b, k2c⟩ := IH _ _ act had1 holds1 outcome t1 v1 okx pm1 (fun hm => by
      rw [ht1, hv1, if_neg (by omega), if_neg (by omega), upd_same, upd_same]; exact ⟨rfl, rfl⟩)
    obtain ⟨off1, off2⟩ := mM_offer (act := act2) (tried := tried2) (value := value2) hn h0 hF hw (show d < 6 by omega) (trn_ok m (d + 1) _ _ okx) r2
    have vd : value2 d = Int32.ofNat (wv w (d % n) (b.1 (d % n))) := by rw [(k2c d (by omega)).2.1, v1e d (by omega), hb.1]
    have td : tried2 d = Int32.ofNat x := by rw [(k2c d (by omega)).1, t1e d (by omega), upd_same]
    have ad : act2 d = cdA b.2 := by rw [(k2c d (by omega)).2.2, hb.2.1]
    have od : rowO n b.1 outcome2 d := fun p hpn => by rw [k2b (4 * d + p) (by omega)]; exact hb.2.2 p hpn
    have pm2 : pM n h k had2 holds2 d := fun p hpn => by
      rw [(k2a (4 * d + p) (by omega)).1, (k2a (4 * d + p) (by omega)).2, (keep1 (4 * d + p) (by omega)).1, (keep1 (4 * d + p) (by omega)).2]
      exact c p hpn
    have l1 := wv_le hw hp (trn_ok (w := w) m (d + 1) _ _ okx _ hp)
    have l2 := wv_le hw hp (hbe _ hp)
    -- behind the offer
    obtain ⟨act3, outcome3, value3, off, bs3, o3, v3⟩ : ∃ act3 outcome3 value3, fX11_offer F (Int32.ofNat n) act2 outcome2 tried2 value2 wo (Int32.ofNat (d + 1)) = some (act3, outcome3, value3) ∧ bS n w d (trS h k w (fun i => (trn n w m (d + 1) (swH h (d % n) i) (swK h k (d % n) i)).1) (d % n) b x) act3 outcome3 value3 ∧ (∀ q, q < 4 * d → outcome3 q = outcome2 q) ∧ ∀ q, q < d → value3 q = value2 q ∧ act3 q = act2 q := by
      by_cases g : wv w (d % n) ((trn n w m (d + 1) (swH h (d % n) x) (swK h k (d % n) x)).1 (d % n)) ≤ wv w (d % n) (b.1 (d % n))
      · refine ⟨act2, outcome2, value2, off1 (by rw [vd]; exact (z_le (by omega) (by omega)).mpr g), ?_, fun q _ => rfl, fun q _ => ⟨rfl, rfl⟩⟩
        unfold trS
        rw [if_pos tk, if_pos g]
        exact ⟨vd, ad, od⟩
      · obtain ⟨o', f1, f2, f3⟩ := off2 (by rw [vd]; exact fun z => g ((z_le (by omega) (by omega)).mp z))
        refine ⟨_, o', _, f1, ?_, fun q hq => f3 q (by omega), fun q hq => ⟨upd_ne (by omega), upd_ne (by omega)⟩⟩
        unfold trS
        rw [if_pos tk, if_neg g]
        refine ⟨upd_same, ?_, f2⟩
        rw [upd_same, td]
        unfold cdA
        rw [if_neg (fun z => by
          have := congrArg Int32.toInt z
          rw [z_toInt (by omega), show (-9 : Int32).toInt = -9 from rfl] at this
          omega)]
    have be3 : eOk n (trS h k w (fun i => (trn n w m (d + 1) (swH h (d % n) i) (swK h k (d % n) i)).1) (d % n) b x).1 := by
      unfold trS
      rw [if_pos tk]
      split
      · exact hbe
      · exact trn_ok m (d + 1) _ _ okx
    obtain ⟨act4, had4, holds4, outcome4, tried4, value4, e4, b4, k4a, k4b, k4c⟩ := ih (n - (x + 1)) (by omega) (x + 1) _ act3 had2 holds2 outcome3 tried2 value3 (by omega) pm2 (by rw [td, z_succ]) bs3 be3
    refine ⟨act4, had4, holds4, outcome4, tried4, value4, fun N => ?_, ?_, fun q hq => ?_, fun q hq => ?_, fun q hq => ?_⟩
    · have ec : cst n h k w (d % n) (fun i => stT n w m (d + 1) (swH h (d % n) i) (swK h k (d % n) i)) (List.range' i j) = cst n h k w (d % n) (fun i => stT n w m (d + 1) (swH h (d % n) i) (swK h k (d % n) i)) (List.range' (x + 1) (n - (x + 1))) + stT n w m (d + 1) (swH h (d % n) x) (swK h k (d % n) x) + 1 := by
        rw [show j = (x - i) + ((n - (x + 1)) + 1) by omega, skip_cst (x - i) i _ (fun y h1 h2 => sk y h1 (by omega)), show i + (x - i) = x by omega, List.range'_succ]
        show (if tkB h k w (d % n) x = true then _ else _) = _
        rw [if_pos tk]; rfl
      rw [ec, ← Nat.add_assoc, ← Nat.add_assoc, mM_down kk hK (by omega) e, ← ht1, ← hv1, e2]
      unfold finT
      rw [if_neg (by omega), off]
      simp only [nh_b3]
      exact e4 N
    · rw [show j = (x - i) + ((n - (x + 1)) + 1) by omega, skip_fold b (x - i) i _ (fun y h1 h2 => sk y h1 (by omega)), show i + (x - i) = x by omega, List.range'_succ, List.foldl_cons]
      exact b4
    · rw [(k4a q hq).1, (k4a q hq).2, (k2a q (by omega)).1, (k2a q (by omega)).2]
      exact keep1 q (by omega)
    · rw [k4b q hq, o3 q hq, k2b q (by omega)]
    · rw [(k4c q hq).1, (k4c q hq).2.1, (k4c q hq).2.2, (v3 q hq).1, (v3 q hq).2, (k2c q (by omega)).1, (k2c q (by omega)).2.1, (k2c q (by omega)).2.2, t1e q (by omega), v1e q (by omega), upd_ne (by omega)]
      exact ⟨rfl, rfl, rfl⟩
theorem mM_desc (hn : n ≤ 4) (h0 : 0 < n) (hF : 6 ≤ F) (hw : wOk n w wo) (hK : K ≤ 6) (hK1 : 1 ≤ K) : ∀ m d, d + m = K → childOK n F K w wo kk m d := by
  intro m
  induction m with
  | zero =>
    intro d hd h k act had holds outcome tried value ok c hm
    obtain rfl : d = K := by omega
    obtain ⟨o', g1, g2, g3⟩ := mM_leaf (wo := wo) (act := act) (outcome := outcome) (tried := tried) (value := value) kk hn hF hK hK1 c
    exact ⟨act, had, holds, o', tried, value, g1, g2, fun z => absurd rfl z, fun q _ => ⟨rfl, rfl⟩, g3, fun q _ => ⟨rfl, rfl, rfl⟩⟩
  | succ m ih =>
    intro d hd h k act had holds outcome tried value ok c hm
    obtain ⟨tn, vn⟩ := hm (by omega)
    have hp : d % n < n := Nat.mod_lt _ h0
    obtain ⟨had1, holds1, e, pm1, keep1⟩ := mM_pass (F := F) (w := w) (wo := wo) ok c h0 (show d < 13 by omega) (by omega) tn
    obtain ⟨t1, ht1⟩ : ∃ t, t = (if K ≤ d + 1 then upd tried d (-1) else upd (upd tried d (-1)) (d + 1) (-9)) := ⟨_, rfl⟩
    obtain ⟨v1, hv1⟩ : ∃ t, t = (if K ≤ d + 1 then value else upd value (d + 1) (-1)) := ⟨_, rfl⟩
    have t1e : ∀ q, q < d + 1 → t1 q = upd tried d (-1) q := fun q hq => by
      rw [ht1]; split
      · rfl
      · rw [upd_ne (by omega)]
    have v1e : ∀ q, q < d + 1 → v1 q = value q := fun q hq => by
      rw [hv1]; split
      · rfl
      · rw [upd_ne (by omega)]
    obtain ⟨act2, had2, holds2, outcome2, tried2, value2, e2, r2, -, k2a, k2b, k2c⟩ := ih (d + 1) (by omega) _ _ act had1 holds1 outcome t1 v1 ok pm1 (fun hm => by
      rw [ht1, hv1, if_neg (by omega), if_neg (by omega), upd_same, upd_same]; exact ⟨rfl, rfl⟩)
    have be : eOk n (trn n w m (d + 1) h k).1 := trn_ok m (d + 1) _ _ ok
    obtain ⟨-, off2⟩ := mM_offer (act := act2) (tried := tried2) (value := value2) hn h0 hF hw (show d < 6 by omega) be r2
    have vd : value2 d = -1 := by rw [(k2c d (by omega)).2.1, v1e d (by omega), vn]
    have td : tried2 d = -1 := by rw [(k2c d (by omega)).1, t1e d (by omega), upd_same]
    have pm2 : pM n h k had2 holds2 d := fun p hpn => by
      rw [(k2a (4 * d + p) (by omega)).1, (k2a (4 * d + p) (by omega)).2, (keep1 (4 * d + p) (by omega)).1, (keep1 (4 * d + p) (by omega)).2]
      exact c p hpn
    have l1 := wv_le hw hp (be _ hp)
    obtain ⟨o3, f1, f2, f3⟩ := off2 (by
      rw [vd, Int32.le_iff_toInt_le, z_toInt (by omega), show (-1 : Int32).toInt = -1 from rfl]; omega)
    obtain ⟨act4, had4, holds4, outcome4, tried4, value4, e4, b4, k4a, k4b, k4c⟩ := mM_cands kk hn h0 hF hw hK hd (ih (d + 1) (by omega)) ok n 0 ((trn n w m (d + 1) h k).1, -9) _ had2 holds2 o3 tried2 _ (by omega) pm2 (by rw [td]; rfl) (show bS n w d ((trn n w m (d + 1) h k).1, -9) (upd act2 d (tried2 d)) o3 (upd value2 d (Int32.ofNat (wv w (d % n) ((trn n w m (d + 1) h k).1 (d % n))))) from ⟨upd_same, by rw [upd_same, td]; rfl, f2⟩) be
    refine ⟨act4, had4, holds4, outcome4, tried4, value4, fun N => ?_, b4.2.2, fun _ => b4.2.1, fun q hq => ?_, fun q hq => ?_, fun q hq => ?_⟩
    · show fX11_goTurns_L19 _ _ _ _ _ (N + (cst n h k w (d % n) (fun i => stT n w m (d + 1) (swH h (d % n) i) (swK h k (d % n) i)) (List.range' 0 n) + stT n w m (d + 1) h k + 1)) _ _ _ _ _ _ _ _ = _
      rw [← Nat.add_assoc, ← Nat.add_assoc, mM_down kk hK (by omega) e, ← ht1, ← hv1, e2]
      unfold finT
      rw [if_neg (by omega), f1]
      simp only [nh_b3]
      exact e4 N
    · rw [(k4a q hq).1, (k4a q hq).2, (k2a q (by omega)).1, (k2a q (by omega)).2]
      exact keep1 q (by omega)
    · rw [k4b q hq, f3 q (by omega), k2b q (by omega)]
    · rw [(k4c q hq).1, (k4c q hq).2.1, (k4c q hq).2.2, (k2c q (by omega)).1, upd_ne (show q ≠ d by omega), upd_ne (show q ≠ d by omega), (k2c q (by omega)).2.1, (k2c q (by omega)).2.2, t1e q (by omega), v1e q (by omega), upd_ne (by omega)]
      exact ⟨rfl, rfl, rfl⟩
end DESC
/-- the reference's turns: the end in row 0, the opening in act, the rows of the fair kept -/
theorem mM_goTurns {n F K : Nat} {h k w : Nat → Nat} {wo act had holds outcome tried value : Nat → Int32} (ok : pOk n h k) (c : pM n h k had holds 0) (hw : wOk n w wo) (h0 : 0 < n) (hK : K ≤ 6) (hK1 : 1 ≤ K) (hF : 10 + stT n w K 0 h k ≤ F) : ∃ act' had' holds' outcome' tried' value', fX11_goTurns F (Int32.ofNat n) act had holds outcome tried value wo (Int32.ofNat K) = some (act', had', holds', outcome', tried', value') ∧ pM n h k had' holds' 0 ∧ (∀ p, p < n → outcome' p = Int32.ofNat ((trn n w K 0 h k).1 p)) ∧ act' 0 = cdA (trn n w K 0 h k).2 := by
  obtain ⟨kk, hkk⟩ : ∃ kk : Int32 → Int32 → (Nat → Int32) → (Nat → Int32) → (Nat → Int32) → (Nat → Int32) → (Nat → Int32) → (Nat → Int32) → Option ((Nat → Int32) × (Nat → Int32) × (Nat → Int32) × (Nat → Int32) × (Nat → Int32) × (Nat → Int32)), kk = (fun x2_11 x3_12 t_act_13 t_had_14 t_holds_15 t_outcome_16 t_tried_17 t_value_18 => some (t_act_13, t_had_14, t_holds_15, t_outcome_16, t_tried_17, t_value_18)) := ⟨_, rfl⟩
  obtain ⟨act', had', holds', outcome', tried', value', e, r, a, ka, -, -⟩ := mM_desc (F := F) kk ok.1 h0 (by omega) hw hK hK1 K 0 (by omega) h k act had holds outcome (upd tried 0 (-9)) (upd value 0 (-1)) ok c (fun _ => ⟨upd_same, upd_same⟩)
  refine ⟨act', had', holds', outcome', tried', value', ?_, fun p hp => ?_, fun p hp => ?_, a (by omega)⟩
  · obtain ⟨M, hM⟩ : ∃ M, F = (M + 1) + stT n w K 0 h k := ⟨F - 1 - stT n w K 0 h k, by omega⟩
    have e1 := e (M + 1)
    rw [← hM] at e1
    unfold fX11_goTurns
    simp only [nh_let]
    rw [← hkk]
    refine e1.trans ?_
    unfold finT
    rw [if_pos rfl]
    show fX11_goTurns_B19 _ _ _ _ _ _ _ _ _ _ _ _ _ _ = _
    unfold fX11_goTurns_B19
    rw [if_neg (by decide), hkk]
  · have := c p hp
    have q := ka (4 * 0 + p) (by have := ok.1; omega)
    rw [q.1, q.2]; exact this
  · have := r p hp
    rw [Nat.mul_zero, Nat.zero_add] at this
    exact this
