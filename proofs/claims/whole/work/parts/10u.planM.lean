/-! fewest, plan: the reference's search, and that both tell the same -/
def wnOk (wc wn : Nat → Int32) : Prop := ∀ p, p < 4 → wc p = wn p ∧ (wc p = -9 ∨ ∃ s : Nat, s < 6 ∧ wc p = Int32.ofNat s)
theorem cH_w : ∀ s : Nat, s < 6 → ∀ h : Nat, h < 7 → (Int32.ofNat h = Int32.ofNat s ↔ Int32.ofNat s = cH h) := by decide +kernel
theorem mM_areHad_loop {n : Nat} (hn : n ≤ 4) {h : Nat → Nat} {wc wn holds : Nat → Int32} (e : wnOk wc wn) {d : Nat} (hd : d < 14) (hh : ∀ p, p < n → holds (4 * d + p) = Int32.ofNat (h p) ∧ h p ≤ 6) : ∀ (j p N : Nat) (b : Bool), p + j = n → j < N → fX11_areHad_L4 (Int32.ofNat n) holds wn (Int32.ofNat d) (fun x2_3 x3_4 => nh_chk (nh_isB x2_3) (some x2_3)) N (b01 b) (Int32.ofNat p) = some (b01 (b && wsB wc h j p)) := by
  intro j
  induction j with
  | zero =>
    intro p N b hp hN
    obtain ⟨N, rfl⟩ : ∃ M, N = M + 1 := ⟨N - 1, by omega⟩
    show fX11_areHad_B4 _ _ _ _ _ _ _ _ = _
    unfold fX11_areHad_B4
    rw [show p = n by omega, if_pos (Int32.le_refl _)]
    cases b <;> rfl
  | succ j ih =>
    intro p N b hp hN
    obtain ⟨N, rfl⟩ : ∃ M, N = M + 1 := ⟨N - 1, by omega⟩
    show fX11_areHad_B4 _ _ _ _ _ _ _ _ = some (b01 (b && ((decide (wc p = -9) || decide (wc p = cH (h p))) && wsB wc h j (p + 1))))
    unfold fX11_areHad_B4
    rw [if_neg (fun q => absurd ((z_le (by omega) (by omega)).mp q) (by omega))]
    have i0 := ih (p + 1) N false (by omega) (by omega)
    have i1 := ih (p + 1) N true (by omega) (by omega)
    obtain ⟨q1, q2⟩ := e p (by omega)
    simp only [nh_let, z_succ, z_row, z_chk (show p < 4 by omega) (show 4 < 2147483648 by omega), z_chk (show 4 * d + p < 56 by omega) (show 56 < 2147483648 by omega), z_ix (show p < 2147483648 by omega), z_ix (show 4 * d + p < 2147483648 by omega), (hh p (by omega)).1, ← q1]
    cases b with
    | false => rw [if_pos (show b01 false = 0 from rfl)]; exact i0
    | true =>
      rw [if_neg (show ¬ b01 true = 0 by decide)]
      by_cases g : wc p = -9
      · rw [if_pos g, decide_eq_true g]; exact i1
      · rw [if_neg g, decide_eq_false g]
        obtain ⟨s, hs, es⟩ := q2.resolve_left g
        have iff := cH_w s hs (h p) (by have := (hh p (by omega)).2; omega)
        rw [← es] at iff
        by_cases e2 : wc p = cH (h p)
        · rw [if_pos (iff.mpr e2), decide_eq_true e2]; exact i1
        · rw [if_neg (fun z => e2 (iff.mp z)), decide_eq_false e2]; exact i0
theorem mM_areHad {n F : Nat} (hn : n ≤ 4) (hF : 6 ≤ F) {h k : Nat → Nat} {wc wn had holds : Nat → Int32} (e : wnOk wc wn) (ok : pOk n h k) {d : Nat} (cm : pM n h k had holds d) (hd : d < 14) : fX11_areHad F (Int32.ofNat n) holds wn (Int32.ofNat d) = some (b01 (wsB wc h n 0)) := by
  unfold fX11_areHad
  exact mM_areHad_loop hn e hd (fun p hp => ⟨(cm p hp).1, (ok.2 p hp).1⟩) n 0 F true (by omega) (by omega)
theorem mM_find_copy {many : Nat} (hm : many ≤ 12) (tried : Nat → Int32) (kk : Int32 → (Nat → Int32) → Option (Int32 × (Nat → Int32) × (Nat → Int32) × (Nat → Int32) × (Nat → Int32))) : ∀ (j i N : Nat) (planned : Nat → Int32), i + j = many → j < N → (∀ q, q < i → planned q = tried q) → ∃ planned', fX11_findPlan_L29 (Int32.ofNat many) tried kk N (Int32.ofNat i) planned = kk (Int32.ofNat many) planned' ∧ ∀ q, q < many → planned' q = tried q := by
  intro j
  induction j with
  | zero =>
    intro i N planned hi hN a
    obtain ⟨N, rfl⟩ : ∃ M, N = M + 1 := ⟨N - 1, by omega⟩
    refine ⟨planned, ?_, fun q hq => a q (by omega)⟩
    show fX11_findPlan_B29 _ _ _ _ _ _ = _
    unfold fX11_findPlan_B29
    rw [show i = many by omega, if_pos (Int32.le_refl _)]
  | succ j ih =>
    intro i N planned hi hN a
    obtain ⟨N, rfl⟩ : ∃ M, N = M + 1 := ⟨N - 1, by omega⟩
    obtain ⟨planned', e1, e2⟩ := ih (i + 1) N (upd planned i (tried i)) (by omega) (by omega) (fun q hq => by
      by_cases g : q = i
      · rw [g, upd_same]
      · rw [upd_ne g]; exact a q (by omega))
    refine ⟨planned', ?_, e2⟩
    show fX11_findPlan_B29 _ _ _ _ _ _ = _
    unfold fX11_findPlan_B29
    rw [if_neg (fun q => absurd ((z_le (by omega) (by omega)).mp q) (by omega))]
    simp only [nh_let, z_succ, z_chk (show i < 14 by omega) (show 14 < 2147483648 by omega), z_ix (show i < 2147483648 by omega)]
    exact e1
/-- what a search from a depth leaves: a row, or nothing and one higher -/
def fpO (many d : Nat) (o : Option (List Nat)) (had holds tried : Nat → Int32) (L : Nat → Int32 → (Nat → Int32) → (Nat → Int32) → (Nat → Int32) → Option (Int32 × (Nat → Int32) × (Nat → Int32) × (Nat → Int32) × (Nat → Int32))) (C : Nat) : Prop :=
  ∃ had' holds' tried', (∀ q, q < 4 * d + 4 → had' q = had q ∧ holds' q = holds q) ∧ (∀ q, q < d → tried' q = tried q) ∧ match o with
  | none => ∀ N, L (N + C) (Int32.ofNat d) had holds tried = L N (Int32.ofNat d + (-1)) had' holds' tried'
  | some r => ∃ planned', (∀ q, q < d → planned' q = tried q) ∧ (∀ i, i < many - d → planned' (d + i) = Int32.ofNat (r.getD i 0)) ∧ ∀ N, L (N + C) (Int32.ofNat d) had holds tried = some (1, had', holds', planned', tried')
theorem mM_find {n : Nat} {wc wn : Nat → Int32} (e : wnOk wc wn) {F many : Nat} (hF : 60 ≤ F) (hm : many ≤ 12) (planned : Nat → Int32) (kk : Int32 → (Nat → Int32) → (Nat → Int32) → (Nat → Int32) → Option (Int32 × (Nat → Int32) × (Nat → Int32) × (Nat → Int32) × (Nat → Int32))) :
    ∀ (m : Nat) (h k : Nat → Nat) (d : Nat) (had holds tried : Nat → Int32), pOk n h k → d + m = many → pM n h k had holds d → tried d = -9 → fpO many d (fnd n wc m h k) had holds tried (fX11_findPlan_L10 (Int32.ofNat n) planned wn (Int32.ofNat many) F kk) (stp n m h k) := by
  intro m
  induction m with
  | zero =>
    intro h k d had holds tried ok hdm cm ht
    have hn := ok.1
    have hdm : d = many := by omega
    have step : ∀ N, fX11_findPlan_L10 (Int32.ofNat n) planned wn (Int32.ofNat many) F kk (N + 1) (Int32.ofNat d) had holds tried = (if b01 (wsB wc h n 0) = 0 then fX11_findPlan_L10 (Int32.ofNat n) planned wn (Int32.ofNat many) F kk N (Int32.ofNat d + (-1)) had holds tried else fX11_findPlan_L29 (Int32.ofNat many) tried (fun x3_41 t_planned_42 => some (1, had, holds, t_planned_42, tried)) F 0 planned) := by
      intro N
      show fX11_findPlan_B10 _ _ _ _ _ _ (fX11_findPlan_L10 (Int32.ofNat n) planned wn (Int32.ofNat many) F kk N) _ _ _ _ = _
      unfold fX11_findPlan_B10
      rw [if_neg (z_nn (by omega)), if_pos (by rw [hdm]), mM_areHad hn (by omega) e ok cm (by omega)]
      simp only [nh_b1, nh_let]
      rw [if_pos (show Int32.ofNat many ≤ Int32.ofNat d by rw [hdm]; exact Int32.le_refl _)]
    show fpO many d (if wsB wc h n 0 = true then some [] else none) had holds tried _ 1
    by_cases hw : wsB wc h n 0 = true
    · rw [if_pos hw]
      obtain ⟨planned', p1, p2⟩ := mM_find_copy hm tried (fun x3_41 t_planned_42 => some (1, had, holds, t_planned_42, tried)) many 0 F planned (by omega) (by omega) (fun q hq => absurd hq (by omega))
      refine ⟨had, holds, tried, fun _ _ => ⟨rfl, rfl⟩, fun _ _ => rfl, planned', fun q hq => p2 q (by omega), fun i hi => absurd hi (by omega), fun N => ?_⟩
      rw [step N, hw, if_neg (by decide)]
      exact p1
    · rw [if_neg hw]
      refine ⟨had, holds, tried, fun _ _ => ⟨rfl, rfl⟩, fun _ _ => rfl, fun N => ?_⟩
      rw [step N, show wsB wc h n 0 = false by simpa using hw, if_pos (show b01 false = 0 from rfl)]
  | succ m ihm =>
    have key : ∀ (h k : Nat → Nat) (d : Nat), pOk n h k → d + (m + 1) = many → ∀ (j c : Nat), c + j = 40 → ∀ (had holds tried : Nat → Int32), pM n h k had holds d → ((tried d = -9 ∧ c = 0) ∨ (1 ≤ c ∧ tried d = Int32.ofNat (c - 1))) → fpO many d (fndL n wc m h k (rst n h k j c)) had holds tried (fX11_findPlan_L10 (Int32.ofNat n) planned wn (Int32.ofNat many) F kk) (stpL n m h k j c) := by
      intro h k d ok hdm j
      induction j using Nat.strongRecOn with
      | ind j ihj =>
      intro c hjc had holds tried cm ht
      have hnext := mM_next (tried := tried) (c := c) ok cm (show d < 13 by omega) hF (by omega) ht
      rw [show 40 - c = j by omega] at hnext
      have step : ∀ N, fX11_findPlan_L10 (Int32.ofNat n) planned wn (Int32.ofNat many) F kk (N + 1) (Int32.ofNat d) had holds tried = nh_b4 (fX11_next F (Int32.ofNat n) had holds tried (Int32.ofNat d)) (fun r_14 t_had_15 t_holds_16 t_tried_17 => (if r_14 = 0 then fX11_findPlan_L10 (Int32.ofNat n) planned wn (Int32.ofNat many) F kk N (Int32.ofNat d + (-1)) t_had_15 t_holds_16 t_tried_17 else fX11_findPlan_L10 (Int32.ofNat n) planned wn (Int32.ofNat many) F kk N (Int32.ofNat (d + 1)) t_had_15 t_holds_16 (upd t_tried_17 (d + 1) (-9)))) := by
        intro N
        show fX11_findPlan_B10 _ _ _ _ _ _ (fX11_findPlan_L10 (Int32.ofNat n) planned wn (Int32.ofNat many) F kk N) _ _ _ _ = _
        unfold fX11_findPlan_B10
        rw [if_neg (z_nn (by omega)), if_neg (fun q => absurd ((z_eq (by omega) (by omega)).mp q) (by omega)), if_neg (fun q => absurd ((z_le (by omega) (by omega)).mp q) (by omega))]
        simp only [nh_let, z_succ, z_chk (show d + 1 < 14 by omega) (show 14 < 2147483648 by omega), z_ix (show d + 1 < 2147483648 by omega)]
      rcases hnext with ⟨er, en⟩ | ⟨x, hcx, hx, hok, er, had1, holds1, en, pm1, keep1⟩
      · rw [er]
        refine ⟨had, holds, tried, fun _ _ => ⟨rfl, rfl⟩, fun _ _ => rfl, fun N => ?_⟩
        rw [show stpL n m h k j c = 1 from by unfold stpL; rw [er]; rfl, step N, en]
        rfl
      · obtain ⟨o1, o2, o3⟩ := okc_parts hok
        have okx : pOk n (sH h x) (sK h k x) := pOk_sw ok (by omega) o2 o3
        have I := ihm (sH h x) (sK h k x) (d + 1) had1 holds1 (upd (upd tried d (Int32.ofNat x)) (d + 1) (-9)) okx (by omega) pm1 upd_same
        have eC : stpL n m h k j c = stpL n m h k (39 - x) (x + 1) + stp n m (sH h x) (sK h k x) + 1 := by
          unfold stpL; rw [er, List.foldr_cons]
        have go : ∀ N, fX11_findPlan_L10 (Int32.ofNat n) planned wn (Int32.ofNat many) F kk (N + 1) (Int32.ofNat d) had holds tried = fX11_findPlan_L10 (Int32.ofNat n) planned wn (Int32.ofNat many) F kk N (Int32.ofNat (d + 1)) had1 holds1 (upd (upd tried d (Int32.ofNat x)) (d + 1) (-9)) := by
          intro N
          rw [step N, en]
          rfl
        obtain ⟨had2, holds2, tried2, k2, t2, I2⟩ := I
        have kd : ∀ q, q < 4 * d + 4 → had2 q = had q ∧ holds2 q = holds q := fun q hq => by
          rw [(k2 q (by omega)).1, (k2 q (by omega)).2]
          exact keep1 q (by omega)
        have td : ∀ q, q < d → tried2 q = tried q := fun q hq => by
          rw [t2 q (by omega), upd_ne (by omega), upd_ne (by omega)]
        cases ho : fnd n wc m (sH h x) (sK h k x) with
        | none =>
          rw [ho] at I2
          have I2 : ∀ N, fX11_findPlan_L10 (Int32.ofNat n) planned wn (Int32.ofNat many) F kk (N + stp n m (sH h x) (sK h k x)) (Int32.ofNat (d + 1)) had1 holds1 (upd (upd tried d (Int32.ofNat x)) (d + 1) (-9)) = fX11_findPlan_L10 (Int32.ofNat n) planned wn (Int32.ofNat many) F kk N (Int32.ofNat (d + 1) + (-1)) had2 holds2 tried2 := I2
          have tx : tried2 d = Int32.ofNat (x + 1 - 1) := by
            rw [t2 d (by omega), upd_ne (by omega), upd_same]; rfl
          have pm2 : pM n h k had2 holds2 d := fun p hp => by
            rw [(kd (4 * d + p) (by have := ok.1; omega)).1, (kd (4 * d + p) (by have := ok.1; omega)).2]
            exact cm p hp
          have J := ihj (39 - x) (by omega) (x + 1) (by omega) had2 holds2 tried2 pm2 (Or.inr ⟨by omega, tx⟩)
          obtain ⟨had3, holds3, tried3, k3, t3, J2⟩ := J
          rw [er, fndL_none ho]
          refine ⟨had3, holds3, tried3, fun q hq => ?_, fun q hq => by rw [t3 q hq, td q hq], ?_⟩
          · rw [(k3 q hq).1, (k3 q hq).2]; exact kd q hq
          · have hs : ∀ N, fX11_findPlan_L10 (Int32.ofNat n) planned wn (Int32.ofNat many) F kk (N + stpL n m h k j c) (Int32.ofNat d) had holds tried = fX11_findPlan_L10 (Int32.ofNat n) planned wn (Int32.ofNat many) F kk (N + stpL n m h k (39 - x) (x + 1)) (Int32.ofNat d) had2 holds2 tried2 := fun N => by
              rw [eC, show N + (stpL n m h k (39 - x) (x + 1) + stp n m (sH h x) (sK h k x) + 1) = (N + stpL n m h k (39 - x) (x + 1) + stp n m (sH h x) (sK h k x)) + 1 by omega, go, I2, show Int32.ofNat (d + 1) + (-1) = Int32.ofNat d from z_dec]
            revert J2
            cases fndL n wc m h k (rst n h k (39 - x) (x + 1)) with
            | none => exact fun J2 N => (hs N).trans (J2 N)
            | some r =>
              rintro ⟨pl, q1, q2, q3⟩
              exact ⟨pl, fun q hq => by rw [q1 q hq, td q hq], q2, fun N => (hs N).trans (q3 N)⟩
        | some r =>
          rw [ho] at I2
          obtain ⟨pl, q1, q2, q3⟩ := I2
          rw [er, fndL_some ho]
          refine ⟨had2, holds2, tried2, kd, td, pl, fun q hq => by rw [q1 q (by omega), upd_ne (by omega), upd_ne (by omega)], fun i hi => ?_, fun N => ?_⟩
          · cases i with
            | zero => rw [show d + 0 = d from rfl, q1 d (by omega), upd_ne (by omega), upd_same]; rfl
            | succ i => rw [show d + (i + 1) = d + 1 + i by omega, q2 i (by omega)]; rfl
          · rw [eC, show N + (stpL n m h k (39 - x) (x + 1) + stp n m (sH h x) (sK h k x) + 1) = (N + stpL n m h k (39 - x) (x + 1) + stp n m (sH h x) (sK h k x)) + 1 by omega, go]
            exact q3 _
    intro h k d had holds tried ok hdm cm ht
    exact key h k d ok hdm 40 0 rfl had holds tried cm (Or.inl ⟨ht, rfl⟩)
theorem mM_findPlan {n : Nat} {wc wn : Nat → Int32} (e : wnOk wc wn) {F many : Nat} (hm : many ≤ 12) {h k : Nat → Nat} {had holds : Nat → Int32} (ok : pOk n h k) (cm : pM n h k had holds 0) (hF : 60 + stp n many h k ≤ F) (planned tried : Nat → Int32) : ∃ had' holds' planned' tried', fX11_findPlan F (Int32.ofNat n) had holds planned tried wn (Int32.ofNat many) = some (if (fnd n wc many h k).isSome = true then 1 else 0, had', holds', planned', tried') ∧ pM n h k had' holds' 0 ∧ ∀ r, fnd n wc many h k = some r → ∀ i, i < many → planned' i = Int32.ofNat (r.getD i 0) := by
  unfold fX11_findPlan
  obtain ⟨had', holds', tried', k1, t1, I⟩ := mM_find e (show 60 ≤ F by omega) hm planned (fun x2_6 t_had_7 t_holds_8 t_tried_9 => some (0, t_had_7, t_holds_8, planned, t_tried_9)) many h k 0 had holds (upd tried (Int32.toNatClampNeg (0 : Int32)) (-9)) ok (by omega) cm upd_same
  obtain ⟨M, hM⟩ : ∃ M, F = (M + 1) + stp n many h k := ⟨F - stp n many h k - 1, by omega⟩
  have pm : pM n h k had' holds' 0 := keep4 ok.1 cm k1
  cases ho : fnd n wc many h k with
  | none =>
    rw [ho] at I
    have I := I (M + 1)
    rw [← hM] at I
    refine ⟨had', holds', planned, tried', ?_, pm, fun r hr => by cases hr⟩
    simp only [nh_let]
    refine (show _ = _ from I).trans ?_
    show fX11_findPlan_B10 _ _ _ _ _ _ _ _ _ _ _ = _
    unfold fX11_findPlan_B10
    rw [if_pos (by decide)]
    rfl
  | some r =>
    rw [ho] at I
    obtain ⟨pl, q1, q2, q3⟩ := I
    have I := q3 (M + 1)
    rw [← hM] at I
    refine ⟨had', holds', pl, tried', ?_, pm, fun s hs i hi => ?_⟩
    · simp only [nh_let]
      exact I
    · cases hs
      have := q2 i (by omega)
      rw [Nat.zero_add] at this
      exact this
theorem stS_le {n : Nat} {h k : Nat → Nat} : ∀ M m, m < M → stp n m h k ≤ stS n h k M
  | 0, m, hm => absurd hm (by omega)
  | M + 1, m, hm => by
    show stp n m h k ≤ stS n h k M + stp n M h k
    by_cases e : m = M
    · rw [e]; omega
    · have := stS_le (n := n) (h := h) (k := k) M m (by omega); omega
theorem mM_few_loop {n : Nat} {wc wn : Nat → Int32} (e : wnOk wc wn) {h k : Nat → Nat} (ok : pOk n h k) {F : Nat} (hF : 60 + stS n h k 13 ≤ F) : ∀ (j m N : Nat) (had holds planned tried : Nat → Int32), m + j = 13 → j < N → pM n h k had holds 0 → ∃ r had' holds' planned' tried', fX11_fewestNow_L2 (Int32.ofNat n) wn F (fun x1_6 t_had_7 t_holds_8 t_planned_9 t_tried_10 => some ((-9), t_had_7, t_holds_8, t_planned_9, t_tried_10)) N (Int32.ofNat m) had holds planned tried = some (r, had', holds', planned', tried') ∧ pM n h k had' holds' 0 ∧ match fsN (fun m => fnd n wc m h k) j m with
    | none => r = -9
    | some a => r = Int32.ofNat a.1 ∧ ∀ i, i < a.1 → planned' i = Int32.ofNat (a.2.getD i 0) := by
  intro j
  induction j with
  | zero =>
    intro m N had holds planned tried hm hN cm
    obtain ⟨N, rfl⟩ : ∃ M, N = M + 1 := ⟨N - 1, by omega⟩
    refine ⟨-9, had, holds, planned, tried, ?_, cm, rfl⟩
    show fX11_fewestNow_B2 _ _ _ _ _ _ _ _ _ _ = _
    unfold fX11_fewestNow_B2
    rw [show m = 13 by omega, if_pos (by decide)]
  | succ j ih =>
    intro m N had holds planned tried hm hN cm
    obtain ⟨N, rfl⟩ : ∃ M, N = M + 1 := ⟨N - 1, by omega⟩
    have hst := stS_le (n := n) (h := h) (k := k) 13 m (by omega)
    obtain ⟨had1, holds1, pl1, tr1, f1, f2, f3⟩ := mM_findPlan e (show m ≤ 12 by omega) ok cm (show 60 + stp n m h k ≤ F by omega) planned tried
    have step : fX11_fewestNow_L2 (Int32.ofNat n) wn F (fun x1_6 t_had_7 t_holds_8 t_planned_9 t_tried_10 => some ((-9), t_had_7, t_holds_8, t_planned_9, t_tried_10)) (N + 1) (Int32.ofNat m) had holds planned tried = (if (if (fnd n wc m h k).isSome = true then (1 : Int32) else 0) = 0 then fX11_fewestNow_L2 (Int32.ofNat n) wn F (fun x1_6 t_had_7 t_holds_8 t_planned_9 t_tried_10 => some ((-9), t_had_7, t_holds_8, t_planned_9, t_tried_10)) N (Int32.ofNat (m + 1)) had1 holds1 pl1 tr1 else some (Int32.ofNat m, had1, holds1, pl1, tr1)) := by
      show fX11_fewestNow_B2 _ _ _ _ (fX11_fewestNow_L2 (Int32.ofNat n) wn F (fun x1_6 t_had_7 t_holds_8 t_planned_9 t_tried_10 => some ((-9), t_had_7, t_holds_8, t_planned_9, t_tried_10)) N) _ _ _ _ _ = _
      unfold fX11_fewestNow_B2
      rw [if_neg (show ¬ (13 : Int32) ≤ Int32.ofNat m from fun q => absurd ((z_le (a := 13) (b := m) (by omega) (by omega)).mp q) (by omega)), f1]
      simp only [nh_b5, nh_let, z_succ]
    show ∃ (r : Int32) (had' holds' planned' tried' : Nat → Int32), _ ∧ _ ∧ match (match fnd n wc m h k with | some r => some (m, r) | none => fsN (fun m => fnd n wc m h k) j (m + 1)) with
      | none => r = -9
      | some a => r = Int32.ofNat a.1 ∧ ∀ i, i < a.1 → planned' i = Int32.ofNat (a.2.getD i 0)
    rw [step]
    cases ho : fnd n wc m h k with
    | none =>
      obtain ⟨r, had', holds', planned', tried', g1, g2, g3⟩ := ih (m + 1) N had1 holds1 pl1 tr1 (by omega) (by omega) f2
      exact ⟨r, had', holds', planned', tried', by rw [if_pos (by decide)]; exact g1, g2, g3⟩
    | some r =>
      exact ⟨Int32.ofNat m, had1, holds1, pl1, tr1, if_neg (show ¬ (if (some r).isSome = true then (1 : Int32) else 0) = 0 from (by decide : ¬ (1 : Int32) = 0)), f2, rfl, f3 r ho⟩
theorem mM_few {n : Nat} {wc wn : Nat → Int32} (e : wnOk wc wn) {h k : Nat → Nat} {had holds : Nat → Int32} (ok : pOk n h k) (cm : pM n h k had holds 0) {F : Nat} (hF : 60 + stS n h k 13 ≤ F) (planned tried : Nat → Int32) : ∃ r had' holds' planned' tried', fX11_fewestNow F (Int32.ofNat n) had holds planned tried wn = some (r, had', holds', planned', tried') ∧ pM n h k had' holds' 0 ∧ match fsN (fun m => fnd n wc m h k) 13 0 with
    | none => r = -9
    | some a => r = Int32.ofNat a.1 ∧ ∀ i, i < a.1 → planned' i = Int32.ofNat (a.2.getD i 0) := by
  unfold fX11_fewestNow
  exact mM_few_loop e ok hF 13 0 F had holds planned tried (by omega) (by omega) cm
section PLAN
variable {n : Nat} {h k : Nat → Nat} {hd kn had holds wc wn : Nat → Int32}
theorem pair_few (ok : pOk n h k) (c : pC n h k hd kn) (cm : pM n h k had holds 0) (e : wnOk wc wn) : ∀ F, UBF ≤ F → ∀ (be li : Int32) (br row planned tried : Nat → Int32), ∃ r li' br' row' had' holds' planned' tried', fX9_seekAll F be li br row wc (Int32.ofNat n) hd kn = some (r, li', br', row', hd, kn) ∧ fX11_fewestNow F (Int32.ofNat n) had holds planned tried wn = some (r, had', holds', planned', tried') ∧ pM n h k had' holds' 0 ∧ (r = -9 ∨ ∃ m, m ≤ 12 ∧ r = Int32.ofNat m ∧ ∀ i, i < m → br' i = planned' i) := by
  intro F hU be li br row planned tried
  have hF : 60 + stS n h k 13 ≤ F := Nat.le_trans (ub_stS n h k) hU
  obtain ⟨be', li', br', row', e1, e2⟩ := aC_seekAll (show 6 ≤ F by omega) (wc := wc) ok c be li br row
  obtain ⟨r, had', holds', planned', tried', f1, f2, f3⟩ := mM_few e ok cm hF planned tried
  cases ho : fsN (fun m => fnd n wc m h k) 13 0 with
  | none =>
    rw [ho] at e2 f3
    have e2 : be' = -9 := e2
    have f3 : r = -9 := f3
    subst e2 f3
    exact ⟨_, _, _, _, _, _, _, _, e1, f1, f2, Or.inl rfl⟩
  | some a =>
    rw [ho] at e2 f3
    obtain ⟨g1, g2⟩ := e2
    obtain ⟨g3, g4⟩ := f3
    subst g1 g3
    obtain ⟨m, l⟩ := a
    have z := (fsN_some _ _ _ _).mp ho
    exact ⟨_, _, _, _, _, _, _, _, e1, f1, f2, Or.inr ⟨m, by have := z.2.1; omega, rfl, fun i hi => by rw [g2 i hi, g4 i hi]⟩⟩
theorem pair_fewest (ok : pOk n h k) (c : pC n h k hd kn) (cm : pM n h k had holds 0) (e : wnOk wc wn) : ∀ F, UBF ≤ F → ∀ (be li th : Int32) (br row planned tried : Nat → Int32), ∃ r be' li' br' row' had' holds' planned' tried', fX10_fewest F (Int32.ofNat n) hd kn be li br row wc = some (r, hd, kn, be', li', br', row') ∧ fX11_fewest F th (Int32.ofNat n) had holds planned tried wn = some (r, 0, had', holds', planned', tried') ∧ pM n h k had' holds' 0 := by
  have H := pair_few ok c cm e
  intro F hF be li th br row planned tried
  obtain ⟨r, li', br', row', had', holds', planned', tried', e1, e2, e3, -⟩ := H F hF be li br row planned tried
  exact ⟨r, r, li', br', row', had', holds', planned', tried', by unfold fX10_fewest; rw [e1]; rfl, by unfold fX11_fewest; rw [e2]; rfl, e3⟩
theorem pair_plan (ok : pOk n h k) (c : pC n h k hd kn) (cm : pM n h k had holds 0) (e : wnOk wc wn) (a : Int32) : ∀ F, UBF ≤ F → ∀ (be li th : Int32) (br row planned tried : Nat → Int32), ∃ r be' li' br' row' had' holds' planned' tried', fX10_plan F (Int32.ofNat n) hd kn be li br row wc a = some (r, hd, kn, be', li', br', row') ∧ fX11_plan F th (Int32.ofNat n) had holds planned tried wn a = some (r, 0, had', holds', planned', tried') ∧ pM n h k had' holds' 0 := by
  have H := pair_few ok c cm e
  intro F hF be li th br row planned tried
  obtain ⟨r, li', br', row', had', holds', planned', tried', e1, e2, e3, e4⟩ := H F hF be li br row planned tried
  unfold fX10_plan fX11_plan
  rw [e1, e2]
  simp only [nh_b6, nh_b5]
  rw [show (0 : Int64) = Int32.toInt64 0 from rfl, mM_in]
  rcases z_cases a with g | ⟨i, rfl, hi⟩
  · refine ⟨-9, r, li', br', row', had', holds', planned', tried', ?_, ?_, e3⟩
    · rw [if_pos g]
    · rw [decide_eq_false (fun z => Int32.not_lt.mpr z.1 g), if_pos (by decide)]
  · rw [if_neg (z_nn hi)]
    rcases e4 with rfl | ⟨m, hm, rfl, e4⟩
    · refine ⟨-9, -9, li', br', row', had', holds', planned', tried', ?_, ?_, e3⟩
      · rw [if_neg (show ¬ Int32.ofNat i < -9 from fun z => by
          rw [Int32.lt_iff_toInt_lt, z_toInt hi, show (-9 : Int32).toInt = -9 from rfl] at z; omega)]
        split <;> rfl
      · rw [decide_eq_false (fun z => by
          have z := z.2
          rw [Int32.le_iff_toInt_le, z_toInt hi, show ((-9 : Int32) - 1).toInt = -10 from rfl] at z; omega), if_pos (by decide)]
    · by_cases him : i < m
      · refine ⟨br' i, Int32.ofNat m, li', br', row', had', holds', planned', tried', ?_, ?_, e3⟩
        · rw [if_neg (show ¬ (12 : Int32) ≤ Int32.ofNat i from fun z => absurd ((z_le (a := 12) (b := i) (by omega) (by omega)).mp z) (by omega)), if_pos ((z_lt (by omega) (by omega)).mpr him), z_chk (show i < 12 by omega) (by omega), z_ix (by omega)]
        · rw [decide_eq_true (show (0 : Int32) ≤ Int32.ofNat i ∧ Int32.ofNat i ≤ Int32.ofNat m - 1 from ⟨Int32.not_lt.mp (z_nn hi), (z_pred (by omega) hi).mpr him⟩), if_neg (by decide), z_chk (show i < 14 by omega) (by omega), z_ix (by omega), e4 i him]
      · refine ⟨-9, Int32.ofNat m, li', br', row', had', holds', planned', tried', ?_, ?_, e3⟩
        · rw [if_neg (show ¬ Int32.ofNat i < Int32.ofNat m from fun z => him ((z_lt (by omega) (by omega)).mp z))]
          split <;> rfl
        · rw [decide_eq_false (fun z => him ((z_pred (by omega) hi).mp z.2)), if_pos (by decide)]
end PLAN
