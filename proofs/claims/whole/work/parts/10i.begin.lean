/-! begin: both sides -/
theorem z_popc : ∀ a : Nat, a < 64 → fJ6_bitCount_0f7a4 (Int32.ofNat a) = Int32.ofNat (popc a) := by decide +kernel
def upN (f : Nat → Nat) (i x : Nat) : Nat → Nat := fun p => if p = i then x else f p
theorem pOk_begin {n : Nat} {h k : Nat → Nat} (ok : pOk n h k) {p s : Nat} (hs : s < 6) : pOk n (upN h p s) (upN k p (2 ^ s)) := by
  refine ⟨ok.1, fun q hq => ?_⟩
  unfold upN
  by_cases e : q = p
  · rw [if_pos e, if_pos e]
    exact ⟨by omega, pow_lt64 _ hs, fun _ => by simp [Nat.testBit_two_pow]⟩
  · rw [if_neg e, if_neg e]; exact ok.2 q hq
/-- the best beginning: from the sort s on, j more -/
def begF (n p : Nat) (h k : Nat → Nat) (a : Int32 × Nat) (s : Nat) : Int32 × Nat := if a.2 < popc (reachN p n (upN h p s) (upN k p (2 ^ s))) then (Int32.ofNat s, popc (reachN p n (upN h p s) (upN k p (2 ^ s)))) else a
theorem reach_lt {n p : Nat} {h k : Nat → Nat} (ok : pOk n h k) (hp : p < n) : reachN p n h k < 64 := dfsO_lt hp ok (wb_lt (ok.2 p hp).1)
theorem aC_begin_loop {n : Nat} {h k : Nat → Nat} {hd0 kn0 : Nat → Int32} (ok : pOk n h k) (c : pC n h k hd0 kn0) {p F : Nat} (hp : p < n) (hF : 8 ≤ F) (kk : Int32 → Int32 → Int32 → (Nat → Int32) → (Nat → Int32) → Option (Int32 × (Nat → Int32) × (Nat → Int32))) : ∀ (j s N : Nat) (a : Int32 × Nat) (hd kn : Nat → Int32), s + j = 6 → j < N → a.2 ≤ 6 → (∀ q, q ≠ p → hd q = hd0 q ∧ kn q = kn0 q) → ∃ hd' kn', (∀ q, q ≠ p → hd' q = hd0 q ∧ kn' q = kn0 q) ∧ fX2_bestBegin_L23 (Int32.ofNat n) (Int32.ofNat p) F kk N a.1 (Int32.ofNat a.2) (Int32.ofNat s) hd kn = kk ((List.range' s j).foldl (begF n p h k) a).1 (Int32.ofNat ((List.range' s j).foldl (begF n p h k) a).2) 6 hd' kn' := by
  have hn := ok.1
  intro j
  induction j with
  | zero =>
    intro s N a hd kn hs hN h2 hq
    obtain ⟨N, rfl⟩ : ∃ M, N = M + 1 := ⟨N - 1, by omega⟩
    refine ⟨hd, kn, hq, ?_⟩
    show fX2_bestBegin_B23 _ _ _ _ _ _ _ _ _ _ = _
    unfold fX2_bestBegin_B23
    rw [show s = 6 by omega, if_pos (show (6 : Int32) ≤ Int32.ofNat 6 by decide)]
    rfl
  | succ j ih =>
    intro s N a hd kn hs hN h2 hq
    obtain ⟨N, rfl⟩ : ∃ M, N = M + 1 := ⟨N - 1, by omega⟩
    have hs6 : s < 6 := by omega
    have okb := pOk_begin (p := p) ok hs6
    have cb : pC n (upN h p s) (upN k p (2 ^ s)) (upd hd p (Int32.ofNat s)) (upd kn p (Int32.ofNat (2 ^ s))) := by
      intro q hqn
      unfold upN
      by_cases e : q = p
      · subst e; rw [upd_same, upd_same, if_pos rfl, if_pos rfl, cH_lt hs6]; exact ⟨rfl, rfl⟩
      · rw [upd_ne e, upd_ne e, if_neg e, if_neg e, (hq q e).1, (hq q e).2]; exact c q hqn
    have hr := reach_lt okb hp
    have hp6 : popc (reachN p n (upN h p s) (upN k p (2 ^ s))) ≤ 6 := popc_le _ hr
    obtain ⟨hd', kn', e1, e2⟩ := ih (s + 1) N (begF n p h k a s) (upd hd p (Int32.ofNat s)) (upd kn p (Int32.ofNat (2 ^ s))) (by omega) (by omega) (by unfold begF; split; exact hp6; exact h2) (fun q e => by rw [upd_ne e, upd_ne e]; exact hq q e)
    refine ⟨hd', kn', e1, ?_⟩
    rw [List.range'_succ, List.foldl_cons, ← e2]
    show fX2_bestBegin_B23 _ _ _ _ _ _ _ _ _ _ = _
    unfold fX2_bestBegin_B23
    rw [if_neg (show ¬ (6 : Int32) ≤ Int32.ofNat s from fun q => absurd ((z_le (a := 6) (b := s) (by omega) (by omega)).mp q) (by omega))]
    have eb : fX10_bit (Int32.ofNat s) = Int32.ofNat (2 ^ s) := by rw [← cH_lt hs6, aC_bit _ (by omega), if_neg (by omega)]
    simp only [z_chk (show p < 4 by omega) (show 4 < 2147483648 by omega), nh_let, z_ix (show p < 2147483648 by omega), eb, z_succ]
    rw [aC_sorts okb cb hp (by omega)]
    simp only [nh_b3]
    rw [z_popc _ hr]
    unfold begF
    by_cases g : a.2 < popc (reachN p n (upN h p s) (upN k p (2 ^ s)))
    · rw [if_pos g, if_neg (fun q => absurd ((z_le (by omega) (by omega)).mp q) (by omega))]
    · rw [if_neg g, if_pos ((z_le (by omega) (by omega)).mpr (by omega))]
theorem aC_begin {n : Nat} {h k : Nat → Nat} {hd kn : Nat → Int32} (ok : pOk n h k) (c : pC n h k hd kn) {p F : Nat} (hp : p < n) (hF : 8 ≤ F) : fX2_bestBegin F (Int32.ofNat n) hd kn (Int32.ofNat p) = some (((List.range' 0 6).foldl (begF n p h k) (0, 0)).1, hd, kn) := by
  have hn := ok.1
  unfold fX2_bestBegin
  simp only [z_chk (show p < 4 by omega) (show 4 < 2147483648 by omega), nh_let, z_ix (show p < 2147483648 by omega)]
  obtain ⟨hd', kn', e1, e2⟩ := aC_begin_loop ok c hp hF (fun x4_10 x5_11 x6_12 a0_held_13 a0_known_14 => some (x4_10, upd a0_held_13 p (hd p), upd a0_known_14 p (kn p))) 6 0 F (0, 0) hd kn rfl (by omega) (by decide) (fun q _ => ⟨rfl, rfl⟩)
  refine Eq.trans e2 ?_
  have f1 : upd hd' p (hd p) = hd := by
    funext q
    by_cases e : q = p
    · subst e; rw [upd_same]
    · rw [upd_ne e]; exact (e1 q e).1
  have f2 : upd kn' p (kn p) = kn := by
    funext q
    by_cases e : q = p
    · subst e; rw [upd_same]
    · rw [upd_ne e]; exact (e1 q e).2
  show some (_, upd hd' p (hd p), upd kn' p (kn p)) = _
  rw [f1, f2]

theorem mM_bits {r : Nat} (hr : r < 64) (kk : Int32 → Int32 → Option (Int32 × Int32 × Int32 × Int32 × Int32 × Int32 × (Nat → Int32) × (Nat → Int32) × (Nat → Int32))) : ∀ (j s N a : Nat), s + j = 6 → j < N → fX11_begin_L89 (Int32.ofNat r) kk N (Int32.ofNat a) (Int32.ofNat s) = kk (Int32.ofNat ((List.range' s j).foldl (fun a t => a + if r.testBit t = true then 1 else 0) a)) 6 := by
  intro j
  induction j with
  | zero =>
    intro s N a hs hN
    obtain ⟨N, rfl⟩ : ∃ M, N = M + 1 := ⟨N - 1, by omega⟩
    show fX11_begin_B89 _ _ _ _ _ = _
    unfold fX11_begin_B89
    rw [show s = 6 by omega, if_pos (show (6 : Int32) ≤ Int32.ofNat 6 by decide)]
    rfl
  | succ j ih =>
    intro s N a hs hN
    obtain ⟨N, rfl⟩ : ∃ M, N = M + 1 := ⟨N - 1, by omega⟩
    rw [List.range'_succ, List.foldl_cons, ← ih (s + 1) N _ (by omega) (by omega)]
    show fX11_begin_B89 _ _ _ _ _ = _
    unfold fX11_begin_B89
    rw [if_neg (show ¬ (6 : Int32) ≤ Int32.ofNat s from fun q => absurd ((z_le (a := 6) (b := s) (by omega) (by omega)).mp q) (by omega))]
    simp only [nh_let, z_succ]
    rw [z_set _ hr _ (by omega)]
    cases r.testBit s with
    | true => rw [if_pos rfl, if_pos rfl, z_succ]
    | false => rw [if_neg (by decide), if_neg (by decide)]; simp
theorem popc_fold (r : Nat) : (List.range' 0 6).foldl (fun a t => a + if r.testBit t = true then 1 else 0) 0 = popc r := by
  show 0 + (if r.testBit 0 = true then 1 else 0) + (if r.testBit 1 = true then 1 else 0) + (if r.testBit 2 = true then 1 else 0) + (if r.testBit 3 = true then 1 else 0) + (if r.testBit 4 = true then 1 else 0) + (if r.testBit 5 = true then 1 else 0) = popc r
  rw [Nat.zero_add]
  rfl
/-- enough turns for the six beginnings -/
def stB (n p : Nat) (h k : Nat → Nat) : Nat := stp n 13 (upN h p 0) (upN k p (2 ^ 0)) + stp n 13 (upN h p 1) (upN k p (2 ^ 1)) + stp n 13 (upN h p 2) (upN k p (2 ^ 2)) + stp n 13 (upN h p 3) (upN k p (2 ^ 3)) + stp n 13 (upN h p 4) (upN k p (2 ^ 4)) + stp n 13 (upN h p 5) (upN k p (2 ^ 5))
theorem stB_le {n p : Nat} {h k : Nat → Nat} {s : Nat} (hs : s < 6) : stp n 13 (upN h p s) (upN k p (2 ^ s)) ≤ stB n p h k := by
  unfold stB
  rcases (show s = 0 ∨ s = 1 ∨ s = 2 ∨ s = 3 ∨ s = 4 ∨ s = 5 by omega) with rfl | rfl | rfl | rfl | rfl | rfl <;> omega
theorem mM_begin_loop {n : Nat} {h k : Nat → Nat} {had0 holds0 : Nat → Int32} (ok : pOk n h k) (c : pM n h k had0 holds0 0) {p F : Nat} (hp : p < n) (hF : 60 + stB n p h k ≤ F) (kk : Int32 → Int32 → Int32 → Int32 → Int32 → Int32 → Int32 → (Nat → Int32) → (Nat → Int32) → (Nat → Int32) → Option (Int32 × Int32 × Int32 × Int32 × Int32 × Int32 × (Nat → Int32) × (Nat → Int32) × (Nat → Int32))) : ∀ (j s N : Nat) (a : Int32 × Nat) (lo sh ru ca : Int32) (had holds tried : Nat → Int32), s + j = 6 → j < N → a.2 ≤ 6 → (∀ q, q < 4 → q ≠ p → had q = had0 q ∧ holds q = holds0 q) → ∃ lo' sh' ru' ca' had' holds' tried', (∀ q, q < 4 → q ≠ p → had' q = had0 q ∧ holds' q = holds0 q) ∧ fX11_begin_L53 (Int32.ofNat n) (Int32.ofNat p) F kk N a.1 (Int32.ofNat a.2) (Int32.ofNat s) lo sh ru ca had holds tried = kk ((List.range' s j).foldl (begF n p h k) a).1 (Int32.ofNat ((List.range' s j).foldl (begF n p h k) a).2) 6 lo' sh' ru' ca' had' holds' tried' := by
  have hn := ok.1
  intro j
  induction j with
  | zero =>
    intro s N a lo sh ru ca had holds tried hs hN h2 hq
    obtain ⟨N, rfl⟩ : ∃ M, N = M + 1 := ⟨N - 1, by omega⟩
    refine ⟨lo, sh, ru, ca, had, holds, tried, hq, ?_⟩
    show fX11_begin_B53 _ _ _ _ _ _ _ _ _ _ _ _ _ _ _ = _
    unfold fX11_begin_B53
    rw [show s = 6 by omega, if_pos (show (6 : Int32) ≤ Int32.ofNat 6 by decide)]
    rfl
  | succ j ih =>
    intro s N a lo sh ru ca had holds tried hs hN h2 hq
    obtain ⟨N, rfl⟩ : ∃ M, N = M + 1 := ⟨N - 1, by omega⟩
    have hs6 : s < 6 := by omega
    have okb := pOk_begin (p := p) ok hs6
    have cb : pM n (upN h p s) (upN k p (2 ^ s)) (upd had p (Int32.ofNat (2 ^ s))) (upd holds p (Int32.ofNat s)) 0 := by
      intro q hqn
      rw [show 4 * 0 + q = q by omega]
      have cq := c q hqn
      rw [show 4 * 0 + q = q by omega] at cq
      unfold upN
      by_cases e : q = p
      · subst e; rw [upd_same, upd_same, if_pos rfl, if_pos rfl]; exact ⟨rfl, rfl⟩
      · rw [upd_ne e, upd_ne e, if_neg e, if_neg e, (hq q (by omega) e).1, (hq q (by omega) e).2]; exact cq
    have hr := reach_lt okb hp
    have hp6 : popc (reachN p n (upN h p s) (upN k p (2 ^ s))) ≤ 6 := popc_le _ hr
    have hst := stB_le (n := n) (p := p) (h := h) (k := k) hs6
    obtain ⟨had1, holds1, tried1, g1, g2⟩ := mM_goRuns okb cb (who := Int32.ofNat p) (Or.inr ⟨p, hp, rfl⟩) F (by omega) lo sh ru ca tried
    rw [mM_came okb hp] at g1
    obtain ⟨lo', sh', ru', ca', had', holds', tried', e1, e2⟩ := ih (s + 1) N (begF n p h k a s) (dfs leafM (enterM (Int32.ofNat p)) n 13 (upN h p s) (upN k p (2 ^ s)) 0 (0, 99999, 0, whoBit (Int32.ofNat p) (upN h p s))).1 (dfs leafM (enterM (Int32.ofNat p)) n 13 (upN h p s) (upN k p (2 ^ s)) 0 (0, 99999, 0, whoBit (Int32.ofNat p) (upN h p s))).2.1 (dfs leafM (enterM (Int32.ofNat p)) n 13 (upN h p s) (upN k p (2 ^ s)) 0 (0, 99999, 0, whoBit (Int32.ofNat p) (upN h p s))).2.2.1 (Int32.ofNat (reachN p n (upN h p s) (upN k p (2 ^ s)))) had1 holds1 tried1 (by omega) (by omega) (by unfold begF; split; exact hp6; exact h2) (fun q h4 e => by
      rw [(g2 q h4).1, (g2 q h4).2, upd_ne e, upd_ne e]; exact hq q h4 e)
    refine ⟨lo', sh', ru', ca', had', holds', tried', e1, ?_⟩
    rw [List.range'_succ, List.foldl_cons, ← e2]
    show fX11_begin_B53 _ _ _ _ _ _ _ _ _ _ _ _ _ _ _ = _
    unfold fX11_begin_B53
    rw [if_neg (show ¬ (6 : Int32) ≤ Int32.ofNat s from fun q => absurd ((z_le (a := 6) (b := s) (by omega) (by omega)).mp q) (by omega))]
    simp only [z_chk (show p < 56 by omega) (show 56 < 2147483648 by omega), nh_let, z_ix (show p < 2147483648 by omega), z_bit _ hs6, z_succ]
    rw [g1]
    simp only [nh_b7]
    refine Eq.trans (mM_bits hr _ 6 0 F 0 rfl (by omega)) ?_
    rw [popc_fold]
    unfold begF
    by_cases g : a.2 < popc (reachN p n (upN h p s) (upN k p (2 ^ s)))
    · have gn : ¬ Int32.ofNat (popc (reachN p n (upN h p s) (upN k p (2 ^ s)))) ≤ Int32.ofNat a.2 := fun q => absurd ((z_le (by omega) (by omega)).mp q) (by omega)
      rw [if_pos g, if_neg gn, if_neg gn]
    · have gp : Int32.ofNat (popc (reachN p n (upN h p s) (upN k p (2 ^ s)))) ≤ Int32.ofNat a.2 := (z_le (by omega) (by omega)).mpr (by omega)
      rw [if_neg g, if_pos gp, if_pos gp]
theorem popc_pos : ∀ r : Nat, r < 64 → ∀ s : Nat, s < 6 → 2 ^ s ||| r = r → 1 ≤ popc r := by decide +kernel
theorem beg_same {n p : Nat} {h k : Nat → Nat} (ok : pOk n h k) (hp : p < n) (x y : Int32) : (List.range' 0 6).foldl (begF n p h k) (x, 0) = (List.range' 0 6).foldl (begF n p h k) (y, 0) := by
  rw [List.range'_succ, List.foldl_cons, List.foldl_cons]
  have okb := pOk_begin (p := p) ok (show 0 < 6 by omega)
  have h1 := (dfsO_in hp 20 (upN h p 0) (upN k p (2 ^ 0)) 0 (wb p (upN h p 0)) okb (inv63 hp okb) (wb_lt (okb.2 p hp).1) (sb63 _ (wb_lt (okb.2 p hp).1))).2.1
  have hw : wb p (upN h p 0) = 2 ^ 0 := by unfold wb upN; rw [if_pos rfl]; rfl
  have h2 : 1 ≤ popc (reachN p n (upN h p 0) (upN k p (2 ^ 0))) := popc_pos _ (reach_lt okb hp) 0 (by omega) (by unfold reachN; rw [hw] at h1 ⊢; exact h1)
  have e : ∀ z : Int32, begF n p h k (z, 0) 0 = (Int32.ofNat 0, popc (reachN p n (upN h p 0) (upN k p (2 ^ 0)))) := by
    intro z; unfold begF; rw [if_pos (show (z, 0).2 < _ from h2)]
  rw [e, e]
