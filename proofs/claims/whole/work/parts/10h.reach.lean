/-! may come to, begin: both sides -/
theorem fold_cong {α β : Type} {S T : β → α → α} : ∀ {l : List β}, (∀ x ∈ l, ∀ a, S x a = T x a) → ∀ a, l.foldl (fun a x => S x a) a = l.foldl (fun a x => T x a) a
  | [], _, _ => rfl
  | x :: l, h, a => by
    rw [List.foldl_cons, List.foldl_cons, h x List.mem_cons_self a]
    exact fold_cong (fun y hy => h y (List.mem_cons_of_mem _ hy)) _
theorem dfs_fuel {α : Type} {leaf : Nat → α → α} {enter : (Nat → Nat) → α → α} {n : Nat} : ∀ (f g : Nat) (h k : Nat → Nat) (d : Nat) (a : α), pOk n h k → remS k n < 2 * f → remS k n < 2 * g → dfs leaf enter n f h k d a = dfs leaf enter n g h k d a := by
  intro f
  induction f with
  | zero => intro g h k d a ok h1; omega
  | succ f ih =>
    intro g h k d a ok h1 h2
    obtain ⟨g, rfl⟩ : ∃ m, g = m + 1 := ⟨g - 1, by omega⟩
    show (if _ then _ else _) = (if _ then _ else _)
    cases he : (rst n h k 40 0).isEmpty with
    | true => rfl
    | false =>
      rw [if_neg (by decide), if_neg (by decide)]
      refine fold_cong (S := fun x a => dfs leaf enter n f (sH h x) (sK h k x) (d + 1) (enter (sH h x) a)) (T := fun x a => dfs leaf enter n g (sH h x) (sK h k x) (d + 1) (enter (sH h x) a)) (fun x hx a => ?_) a
      obtain ⟨o1, o2, o3⟩ := okc_parts (mem_rst hx)
      have hrem := rem_sw ok (show x / 10 < n by omega) o2 o3
      have hrem' : remS (sK h k x) n + 2 = remS k n := hrem
      exact ih g _ _ _ _ (pOk_sw ok (show x / 10 < n by omega) o2 o3) (by omega) (by omega)
theorem sb63 : ∀ a : Nat, a < 64 → sb a 63 := by unfold sb; decide +kernel
theorem inv63 {n p : Nat} (hp : p < n) {h k : Nat → Nat} (ok : pOk n h k) : invH n p 63 h k := ⟨sb63 _ (wb_lt (ok.2 p hp).1), fun i hi h6 _ => sb63 _ (pow_lt64 _ h6)⟩
theorem dfsO_lt {n p : Nat} (hp : p < n) {f : Nat} {h k : Nat → Nat} {d a : Nat} (ok : pOk n h k) (ha : a < 64) : dfsO p n f h k d a < 64 := (dfsO_in hp f h k d a ok (inv63 hp ok) ha (sb63 a ha)).1
theorem dfs_came {n p : Nat} (hp : p < n) : ∀ (f : Nat) (h k : Nat → Nat) (d a : Nat) (b : Int32 × Int32 × Int32 × Int32), pOk n h k → a < 64 → b.2.2.2 = Int32.ofNat a → (dfs leafM (enterM (Int32.ofNat p)) n f h k d b).2.2.2 = Int32.ofNat (dfsO p n f h k d a) := by
  intro f
  induction f with
  | zero => intro h k d a b ok ha hb; exact hb
  | succ f ih =>
    intro h k d a b ok ha hb
    rw [dfsO_succ]
    show (if (rst n h k 40 0).isEmpty = true then leafM d b else _).2.2.2 = _
    have key : ∀ (l : List Nat), (∀ x ∈ l, okc n h k x = true) → ∀ (a : Nat) (b : Int32 × Int32 × Int32 × Int32), a < 64 → b.2.2.2 = Int32.ofNat a → (l.foldl (fun b x => dfs leafM (enterM (Int32.ofNat p)) n f (sH h x) (sK h k x) (d + 1) (enterM (Int32.ofNat p) (sH h x) b)) b).2.2.2 = Int32.ofNat (l.foldl (fun a x => dfsO p n f (sH h x) (sK h k x) (d + 1) (a ||| wb p (sH h x))) a) := by
      intro l
      induction l with
      | nil => intro _ a b _ hb; exact hb
      | cons x l ihl =>
        intro hl a b ha hb
        rw [List.foldl_cons, List.foldl_cons]
        obtain ⟨o1, o2, o3⟩ := okc_parts (hl x List.mem_cons_self)
        have okx : pOk n (sH h x) (sK h k x) := pOk_sw ok (show x / 10 < n by omega) o2 o3
        have hw := wb_lt (okx.2 p hp).1
        have h1 := or_lt64 _ ha _ hw
        refine ihl (fun y hy => hl y (List.mem_cons_of_mem _ hy)) _ _ (dfsO_lt hp okx h1) (ih _ _ _ _ _ okx h1 ?_)
        show b.2.2.2 ||| whoBit (Int32.ofNat p) (sH h x) = _
        have hn := ok.1
        have e : whoBit (Int32.ofNat p) (sH h x) = Int32.ofNat (wb p (sH h x)) := by
          unfold whoBit wb
          rw [if_neg (show ¬ Int32.ofNat p = -9 from fun q => by
            have := congrArg Int32.toInt q
            rw [z_toInt (by omega)] at this
            exact absurd this (by rw [show (-9 : Int32).toInt = -9 from rfl]; omega)), z_ix (by omega)]
          split <;> rfl
        rw [e, hb, z_oro _ ha _ hw]
    cases he : (rst n h k 40 0).isEmpty with
    | true =>
      have hnil : rst n h k 40 0 = [] := by simpa using he
      rw [if_pos rfl, hnil]
      exact hb
    | false =>
      rw [if_neg (by decide)]
      exact key _ (fun x hx => mem_rst hx) a b ha hb
theorem aC_isNew {n : Nat} {h k : Nat → Nat} {hd kn : Nat → Int32} (ok : pOk n h k) (c : pC n h k hd kn) {p s : Nat} (hp : p < n) (hs : s ≤ 6) : fX1_isNew (Int32.ofNat n) kn (Int32.ofNat p) (cH s) = some (b01 (decide (s < 6) && !(k p).testBit s)) := by
  have hn := ok.1
  unfold fX1_isNew
  rw [aC_has1 hn hp, if_neg (by decide)]
  by_cases h6 : s = 6
  · subst h6
    rw [if_pos (show fX10_isSort (cH 6) = 0 from by decide)]; rfl
  · rw [cH_lt (show s < 6 by omega), aC_isSort (by omega), decide_eq_true (show s < 6 by omega), if_neg (by decide), z_chk (show p < 4 by omega) (by omega), z_ix (by omega), (c p hp).2, ← cH_lt (show s < 6 by omega), aC_lacks _ (ok.2 p hp).2.1 _ (by omega), decide_eq_true (show s < 6 by omega)]
    cases (k p).testBit s <;> rfl
def hopeF (h k : Nat → Nat) (p : Nat) (a i : Nat) : Nat := if (decide (h i < 6) && !(k p).testBit (h i)) = true then a ||| 2 ^ h i else a
theorem hope_loop {n : Nat} {h k : Nat → Nat} {hd kn : Nat → Int32} (ok : pOk n h k) (c : pC n h k hd kn) {p : Nat} (hp : p < n) (kk : Int32 → Int32 → Option Int32) : ∀ (j i N a : Nat), i + j = n → j < N → a < 64 → ∃ a', a' = (List.range' i j).foldl (hopeF h k p) a ∧ a' < 64 ∧ sb a a' ∧ (∀ x, i ≤ x → x < n → h x < 6 → (k p).testBit (h x) = false → sb (2 ^ h x) a') ∧ fX2_wholeHope_L12 (Int32.ofNat n) hd kn (Int32.ofNat p) kk N (Int32.ofNat a) (Int32.ofNat i) = kk (Int32.ofNat a') (Int32.ofNat n) := by
  have hn := ok.1
  intro j
  induction j with
  | zero =>
    intro i N a hi hN ha
    obtain ⟨N, rfl⟩ : ∃ M, N = M + 1 := ⟨N - 1, by omega⟩
    refine ⟨a, rfl, ha, sb_refl a, fun x h1 h2 => by omega, ?_⟩
    show fX2_wholeHope_B12 _ _ _ _ _ _ _ _ = _
    unfold fX2_wholeHope_B12
    rw [show i = n by omega, if_pos (Int32.le_refl _)]
  | succ j ih =>
    intro i N a hi hN ha
    obtain ⟨N, rfl⟩ : ∃ M, N = M + 1 := ⟨N - 1, by omega⟩
    have vi := (ok.2 i (by omega)).1
    have hF : hopeF h k p a i < 64 := by
      unfold hopeF
      split
      · rename_i hc
        simp only [Bool.and_eq_true, decide_eq_true_eq] at hc
        exact or_lt64 _ ha _ (pow_lt64 _ hc.1)
      · exact ha
    have hsb : sb a (hopeF h k p a i) := by
      unfold hopeF
      split
      · exact sb_left _ _
      · exact sb_refl a
    obtain ⟨a', e1, e2, e3, e4, e5⟩ := ih (i + 1) N (hopeF h k p a i) (by omega) (by omega) hF
    refine ⟨a', by rw [List.range'_succ, List.foldl_cons]; exact e1, e2, sb_trans hsb e3, fun x h1 h2 h3 h4 => ?_, ?_⟩
    · by_cases hx : x = i
      · subst hx
        refine sb_trans ?_ e3
        unfold hopeF
        rw [if_pos (by rw [decide_eq_true h3, h4]; rfl)]
        exact sb_right _ _
      · exact e4 x (by omega) h2 h3 h4
    · rw [← e5]
      show fX2_wholeHope_B12 _ _ _ _ _ _ _ _ = _
      unfold fX2_wholeHope_B12
      rw [if_neg (fun q => absurd ((z_le (by omega) (by omega)).mp q) (by omega)), z_chk (show i < 4 by omega) (by omega), z_ix (by omega), (c i (by omega)).1, aC_isNew ok c hp vi]
      simp only [nh_b1, nh_let, z_succ, z_chk (show i < 4 by omega) (show 4 < 2147483648 by omega)]
      unfold hopeF
      cases hc : (decide (h i < 6) && !(k p).testBit (h i)) with
      | false => rw [if_pos (show b01 false = 0 from rfl), if_neg (by decide)]
      | true =>
        simp only [Bool.and_eq_true, decide_eq_true_eq] at hc
        rw [if_neg (show ¬ b01 true = 0 by decide), if_pos rfl, aC_bit _ (by omega), if_neg (by omega), z_oro _ ha _ (pow_lt64 _ hc.1)]
theorem rem24 {n : Nat} (hn : n ≤ 4) (k : Nat → Nat) : remS k n ≤ 24 := by
  have : ∀ m, m ≤ 4 → remS k m ≤ 6 * m := by
    intro m
    induction m with
    | zero => intro _; exact Nat.le_refl _
    | succ m ih => intro hm; have := ih (by omega); show remS k m + _ ≤ _; omega
  have := this n hn; omega
/-- the set of what a person may come to -/
def reachN (p n : Nat) (h k : Nat → Nat) : Nat := dfsO p n 20 h k 0 (wb p h)
theorem aC_sorts {n : Nat} {h k : Nat → Nat} {hd kn : Nat → Int32} (ok : pOk n h k) (c : pC n h k hd kn) {p F : Nat} (hp : p < n) (hF : 6 ≤ F) : fX2_sorts F (Int32.ofNat n) hd kn (Int32.ofNat p) = some (Int32.ofNat (reachN p n h k), hd, kn) := by
  have hn := ok.1
  have vp := (ok.2 p hp).1
  unfold fX2_sorts fX2_wholeHope
  obtain ⟨hope, -, g2, g3, g4, g5⟩ := hope_loop ok c hp (fun x2_5 x3_6 => some x2_5) n 0 F (wb p h) (by omega) (by omega) (wb_lt vp)
  have ew : (if h p = 6 then (0 : Int32) else Int32.ofNat (2 ^ h p)) = Int32.ofNat (wb p h) := by unfold wb; split <;> rfl
  rw [z_chk (show p < 4 by omega) (by omega), z_ix (by omega), (c p hp).1, aC_bit _ (by omega), ew]
  simp only [nh_let]
  rw [show fX2_wholeHope_L12 (Int32.ofNat n) hd kn (Int32.ofNat p) (fun x2_5 x3_6 => some x2_5) F (Int32.ofNat (wb p h)) 0 = some (Int32.ofNat hope) from g5]
  simp only [nh_b1]
  have e := aC_come (F := F) hp hF g2 20 h k hd kn 0 0 ok c (by have := rem24 hn k; omega) (by have := rem24 hn k; omega) (by omega) (by unfold sb; simp) ⟨g3, fun i hi h6 hb => g4 i (by omega) hi h6 hb⟩
  rw [show fX2_come F 20 (Int32.ofNat n) hd kn (Int32.ofNat p) 0 (Int32.ofNat hope) 0 = _ from e]
  simp only [nh_b3]
  unfold reachN
  rw [Nat.zero_or]
/-- the reference's goRuns for a person -/
theorem mM_came {n : Nat} {h k : Nat → Nat} (ok : pOk n h k) {p : Nat} (hp : p < n) : (dfs leafM (enterM (Int32.ofNat p)) n 13 h k 0 (0, 99999, 0, whoBit (Int32.ofNat p) h)).2.2.2 = Int32.ofNat (reachN p n h k) := by
  have hn := ok.1
  have e : whoBit (Int32.ofNat p) h = Int32.ofNat (wb p h) := by
    unfold whoBit wb
    rw [if_neg (show ¬ Int32.ofNat p = -9 from fun q => by
      have := congrArg Int32.toInt q
      rw [z_toInt (by omega)] at this
      exact absurd this (by rw [show (-9 : Int32).toInt = -9 from rfl]; omega)), z_ix (by omega)]
    split <;> rfl
  rw [e, dfs_came hp 13 h k 0 (wb p h) _ ok (wb_lt (ok.2 p hp).1) rfl]
  unfold reachN dfsO
  rw [dfs_fuel 13 20 h k 0 _ ok (by have := rem24 hn k; omega) (by have := rem24 hn k; omega)]
