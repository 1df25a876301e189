/-! longest, shortest, runs: both sides -/
def weakCM (a : Int32 × Int32 × Int32) (b : Int32 × Int32 × Int32 × Int32) : Prop := a.1 = b.1 ∧ a.2.2 = b.2.2.1 ∧ (a.2.1 = b.2.1 ∨ (a.2.1 = 12 ∧ b.2.1 = 99999))
def strongCM (a : Int32 × Int32 × Int32) (b : Int32 × Int32 × Int32 × Int32) : Prop := a.1 = b.1 ∧ a.2.2 = b.2.2.1 ∧ a.2.1 = b.2.1
theorem leaf_CM {d : Nat} (hd : d ≤ 12) {a : Int32 × Int32 × Int32} {b : Int32 × Int32 × Int32 × Int32} (w : weakCM a b) : strongCM (leafC d a) (leafM d b) := by
  obtain ⟨h1, h2, h3⟩ := w
  unfold leafC leafM strongCM
  refine ⟨?_, by rw [h2], ?_⟩
  · show (if a.1 < Int32.ofNat d then Int32.ofNat d else a.1) = (if Int32.ofNat d ≤ b.1 then b.1 else Int32.ofNat d)
    rw [h1]
    by_cases g : Int32.ofNat d ≤ b.1
    · rw [if_pos g, if_neg (Int32.not_lt.mpr g)]
    · rw [if_neg g, if_pos (Int32.not_le.mp g)]
  · show (if Int32.ofNat d < a.2.1 then Int32.ofNat d else a.2.1) = (if b.2.1 ≤ Int32.ofNat d then b.2.1 else Int32.ofNat d)
    rcases h3 with h3 | ⟨h3, h4⟩
    · rw [h3]
      by_cases g : b.2.1 ≤ Int32.ofNat d
      · rw [if_pos g, if_neg (Int32.not_lt.mpr g)]
      · rw [if_neg g, if_pos (Int32.not_le.mp g)]
    · rw [h3, h4, if_neg (show ¬ (99999 : Int32) ≤ Int32.ofNat d from fun q => absurd ((z_le (a := 99999) (b := d) (by omega) (by omega)).mp q) (by omega))]
      by_cases g : d < 12
      · rw [if_pos (show Int32.ofNat d < 12 from (z_lt (a := d) (b := 12) (by omega) (by omega)).mpr g)]
      · rw [if_neg (show ¬ Int32.ofNat d < 12 from fun q => g ((z_lt (a := d) (b := 12) (by omega) (by omega)).mp q)), show d = 12 by omega]; rfl
theorem mem_rst {n : Nat} {h k : Nat → Nat} {j c x : Nat} (hx : x ∈ rst n h k j c) : okc n h k x = true := by
  rw [rst_filter] at hx
  exact (List.mem_filter.mp hx).2
theorem dfs_CM {who : Int32} {n : Nat} : ∀ (f : Nat) (h k : Nat → Nat) (d : Nat) (a : Int32 × Int32 × Int32) (b : Int32 × Int32 × Int32 × Int32), pOk n h k → remS k n < 2 * f → remS k n + 2 * d ≤ 24 → weakCM a b → strongCM (dfs leafC (fun _ a => a) n f h k d a) (dfs leafM (enterM who) n f h k d b) := by
  intro f
  induction f with
  | zero => intro h k d a b ok hr; omega
  | succ f ih =>
    intro h k d a b ok hr hd w
    show strongCM (if (rst n h k 40 0).isEmpty = true then leafC d a else _) (if (rst n h k 40 0).isEmpty = true then leafM d b else _)
    cases he : (rst n h k 40 0).isEmpty with
    | true => exact leaf_CM (by omega) w
    | false =>
      have key : ∀ (l : List Nat), (∀ x ∈ l, okc n h k x = true) → ∀ a b, weakCM a b → (l ≠ [] ∨ strongCM a b) → strongCM (l.foldl (fun a x => dfs leafC (fun _ a => a) n f (sH h x) (sK h k x) (d + 1) a) a) (l.foldl (fun a x => dfs leafM (enterM who) n f (sH h x) (sK h k x) (d + 1) (enterM who (sH h x) a)) b) := by
        intro l
        induction l with
        | nil => intro _ a b w s; exact s.resolve_left (fun q => q rfl)
        | cons x l ihl =>
          intro hl a b w _
          rw [List.foldl_cons, List.foldl_cons]
          obtain ⟨o1, o2, o3⟩ := okc_parts (hl x List.mem_cons_self)
          have hrem := rem_sw ok (show x / 10 < n by omega) o2 o3
          have hrem' : remS (sK h k x) n + 2 = remS k n := hrem
          have s1 := ih (sH h x) (sK h k x) (d + 1) a (enterM who (sH h x) b) (pOk_sw ok (show x / 10 < n by omega) o2 o3) (by omega) (by omega) w
          exact ihl (fun y hy => hl y (List.mem_cons_of_mem _ hy)) _ _ ⟨s1.1, s1.2.1, Or.inl s1.2.2⟩ (Or.inr s1)
      rw [if_neg (by decide), if_neg (by decide)]
      exact key _ (fun x hx => mem_rst hx) a b w (Or.inl (by intro e; rw [e] at he; cases he))
/-- what the reference's goRuns answers -/
theorem mM_goRuns {n : Nat} {h k : Nat → Nat} {had holds : Nat → Int32} (ok : pOk n h k) (pm : pM n h k had holds 0) {who : Int32} (hw : who = -9 ∨ ∃ p, p < n ∧ who = Int32.ofNat p) : ∀ F, 60 + stp n 13 h k ≤ F → ∀ (lo sh ru ca : Int32) (tried : Nat → Int32), ∃ had' holds' tried', fX11_goRuns F (Int32.ofNat n) lo sh ru ca had holds tried who = some ((dfs leafM (enterM who) n 13 h k 0 (0, 99999, 0, whoBit who h)).1, (dfs leafM (enterM who) n 13 h k 0 (0, 99999, 0, whoBit who h)).2.1, (dfs leafM (enterM who) n 13 h k 0 (0, 99999, 0, whoBit who h)).2.2.1, (dfs leafM (enterM who) n 13 h k 0 (0, 99999, 0, whoBit who h)).2.2.2, had', holds', tried') ∧ ∀ q, q < 4 → had' q = had q ∧ holds' q = holds q := by
  have hn := ok.1
  have hr : remS k n ≤ 24 := by
    have : ∀ m, m ≤ 4 → remS k m ≤ 6 * m := by
      intro m
      induction m with
      | zero => intro _; exact Nat.le_refl _
      | succ m ih => intro hm; have := ih (by omega); show remS k m + _ ≤ _; omega
    have := this n hn; omega
  intro F hF lo sh ru ca tried
  have hgo : ∀ ca0, ∃ had' holds' tried', fX11_goRuns_J46 (Int32.ofNat n) who F 0 99999 0 ca had holds tried ca0 = some ((dfs leafM (enterM who) n 13 h k 0 (0, 99999, 0, ca0)).1, (dfs leafM (enterM who) n 13 h k 0 (0, 99999, 0, ca0)).2.1, (dfs leafM (enterM who) n 13 h k 0 (0, 99999, 0, ca0)).2.2.1, (dfs leafM (enterM who) n 13 h k 0 (0, 99999, 0, ca0)).2.2.2, had', holds', tried') ∧ ∀ q, q < 4 → had' q = had q ∧ holds' q = holds q := by
    intro ca0
    unfold fX11_goRuns_J46
    simp only [nh_let]
    obtain ⟨had', holds', tried', e1, e2, -⟩ := mM_runs_dfs hn hw (show 60 ≤ F by omega) (fun x2_18 t_longest_19 t_shortest_20 t_runs_21 t_came_22 t_had_23 t_holds_24 t_tried_25 => some (t_longest_19, t_shortest_20, t_runs_21, t_came_22, t_had_23, t_holds_24, t_tried_25)) 12 h k 0 ok (by omega) (by omega) 40 0 rfl true (0, 99999, 0, ca0) had holds (upd tried (Int32.toNatClampNeg (0 : Int32)) (-9)) pm (Or.inl ⟨rfl, upd_same, rfl⟩)
    refine ⟨had', holds', tried', ?_, fun q hq => e2 q (by omega)⟩
    obtain ⟨M, hM⟩ : ∃ M, F = (M + 1) + stpL n 12 h k 40 0 := ⟨F - stpL n 12 h k 40 0 - 1, by have : stp n 13 h k = stpL n 12 h k 40 0 := rfl; omega⟩
    have e3 := e1 (M + 1)
    rw [← hM] at e3
    refine Eq.trans e3 ?_
    show fX11_goRuns_B59 _ _ _ _ _ _ _ _ _ _ _ _ _ = _
    unfold fX11_goRuns_B59
    rw [if_pos (show Int32.ofNat 0 + -1 < 0 by decide)]
    rfl
  unfold fX11_goRuns
  rcases hw with rfl | ⟨p, hp, rfl⟩
  · rw [if_pos rfl]
    unfold fX11_goRuns_J34 whoBit
    rw [if_pos rfl]
    exact hgo 0
  · have hne : ¬ Int32.ofNat p = -9 := fun q => by
      have := congrArg Int32.toInt q
      rw [z_toInt (by omega)] at this
      exact absurd this (by rw [show (-9 : Int32).toInt = -9 from rfl]; omega)
    have v := (ok.2 p hp).1
    have pz := pm p hp
    rw [show 4 * 0 + p = p by omega] at pz
    unfold whoBit
    rw [if_neg hne, if_neg hne, z_chk (show p < 56 by omega) (by omega), z_ix (by omega), pz.1]
    by_cases g6 : h p = 6
    · rw [if_pos ((z_eq6 v).mpr g6), if_pos g6]
      unfold fX11_goRuns_J34
      exact hgo 0
    · rw [if_neg (fun q => g6 ((z_eq6 v).mp q)), if_neg g6, z_chk (show p < 56 by omega) (by omega), z_bit _ (by omega)]
      exact hgo _
