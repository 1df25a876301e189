/-! what one may come to -/
def sb (a b : Nat) : Prop := a ||| b = b
theorem sb_refl (a : Nat) : sb a a := Nat.or_self a
theorem sb_trans {a b c : Nat} (h : sb a b) (g : sb b c) : sb a c := by
  unfold sb at *
  rw [← g, ← Nat.or_assoc, h]
theorem sb_or {a b c : Nat} (h : sb a c) (g : sb b c) : sb (a ||| b) c := by
  unfold sb at *
  rw [Nat.or_assoc, g, h]
theorem sb_left (a b : Nat) : sb a (a ||| b) := by
  unfold sb
  rw [← Nat.or_assoc, Nat.or_self]
theorem sb_right (a b : Nat) : sb b (a ||| b) := by
  rw [Nat.or_comm]; exact sb_left b a
theorem sb_anti {a b : Nat} (h : sb a b) (g : sb b a) : a = b := by
  unfold sb at *
  rw [← g, Nat.or_comm]; exact h
theorem or_lt64 : ∀ a : Nat, a < 64 → ∀ b : Nat, b < 64 → a ||| b < 64 := by decide +kernel
theorem pow_lt64 : ∀ s : Nat, s < 6 → 2 ^ s < 64 := by decide +kernel
/-- a person's thing as a set -/
def wb (p : Nat) (h : Nat → Nat) : Nat := if h p = 6 then 0 else 2 ^ h p
theorem wb_lt {p : Nat} {h : Nat → Nat} (hh : h p ≤ 6) : wb p h < 64 := by
  unfold wb
  split
  · omega
  · exact pow_lt64 _ (by omega)
def dfsO (p n f : Nat) (h k : Nat → Nat) (d a : Nat) : Nat := dfs (fun _ a => a) (fun h a => a ||| wb p h) n f h k d a
theorem dfsO_succ {p n f : Nat} {h k : Nat → Nat} {d a : Nat} : dfsO p n (f + 1) h k d a = (rst n h k 40 0).foldl (fun a x => dfsO p n f (sH h x) (sK h k x) (d + 1) (a ||| wb p (sH h x))) a := by
  show (if (rst n h k 40 0).isEmpty = true then a else _) = _
  cases he : (rst n h k 40 0).isEmpty with
  | true =>
    have hnil : rst n h k 40 0 = [] := by simpa using he
    rw [hnil]; rfl
  | false => rfl
/-- all that the person may hold, here and behind, lies within -/
def invH (n p hope : Nat) (h k : Nat → Nat) : Prop := sb (wb p h) hope ∧ ∀ i, i < n → h i < 6 → (k p).testBit (h i) = false → sb (2 ^ h i) hope
theorem testBit_or_false {a b s : Nat} (h : (a ||| b).testBit s = false) : a.testBit s = false := by
  rw [Nat.testBit_or] at h
  cases ha : a.testBit s with
  | false => rfl
  | true => rw [ha] at h; cases h
theorem invH_sw {n p hope : Nat} {h k : Nat → Nat} (ok : pOk n h k) (v : invH n p hope h k) {i j : Nat} (hi : i < n) (hj : j < n) (hc : canB h k i j = true) : invH n p hope (swH h i j) (swK h k i j) := by
  obtain ⟨c1, c2, c3, c4⟩ := canB_parts hc
  have hij := canB_ne ok hi hc
  obtain ⟨v1, v2⟩ := v
  have hk : ∀ s, (swK h k i j p).testBit s = false → (k p).testBit s = false := by
    intro s hs
    unfold swK at hs
    by_cases a : p = i
    · subst a; rw [if_pos rfl] at hs; exact testBit_or_false hs
    · rw [if_neg a] at hs
      by_cases b : p = j
      · subst b; rw [if_pos rfl] at hs; exact testBit_or_false hs
      · rw [if_neg b] at hs; exact hs
  refine ⟨?_, fun x hx h6 hn => ?_⟩
  · unfold wb swH
    by_cases a : p = i
    · subst a
      rw [if_pos rfl, if_neg (by omega)]
      exact v2 j hj c2 c3
    · rw [if_neg a]
      by_cases b : p = j
      · subst b
        rw [if_pos rfl, if_neg (by omega)]
        exact v2 i hi c1 c4
      · rw [if_neg b]; exact v1
  · have hn' := hk _ hn
    unfold swH at hn' h6 ⊢
    by_cases a : x = i
    · subst a
      rw [if_pos rfl] at hn' h6 ⊢
      exact v2 j hj h6 hn'
    · rw [if_neg a] at hn' h6 ⊢
      by_cases b : x = j
      · subst b
        rw [if_pos rfl] at hn' h6 ⊢
        exact v2 i hi h6 hn'
      · rw [if_neg b] at hn' h6 ⊢
        exact v2 x hx h6 hn'
theorem fold_in {l : List Nat} {S : Nat → Nat → Nat} {hope : Nat} (hS : ∀ x ∈ l, ∀ a, a < 64 → sb a hope → S x a < 64 ∧ sb a (S x a) ∧ sb (S x a) hope) : ∀ a, a < 64 → sb a hope → l.foldl (fun a x => S x a) a < 64 ∧ sb a (l.foldl (fun a x => S x a) a) ∧ sb (l.foldl (fun a x => S x a) a) hope := by
  induction l with
  | nil => intro a h1 h2; exact ⟨h1, sb_refl a, h2⟩
  | cons x l ih =>
    intro a h1 h2
    rw [List.foldl_cons]
    obtain ⟨g1, g2, g3⟩ := hS x List.mem_cons_self a h1 h2
    obtain ⟨f1, f2, f3⟩ := ih (fun y hy => hS y (List.mem_cons_of_mem _ hy)) _ g1 g3
    exact ⟨f1, sb_trans g2 f2, f3⟩
theorem dfsO_in {n p hope : Nat} (hp : p < n) : ∀ (f : Nat) (h k : Nat → Nat) (d a : Nat), pOk n h k → invH n p hope h k → a < 64 → sb a hope → dfsO p n f h k d a < 64 ∧ sb a (dfsO p n f h k d a) ∧ sb (dfsO p n f h k d a) hope := by
  intro f
  induction f with
  | zero => intro h k d a ok v h1 h2; exact ⟨h1, sb_refl a, h2⟩
  | succ f ih =>
    intro h k d a ok v h1 h2
    rw [dfsO_succ]
    refine fold_in (S := fun x a => dfsO p n f (sH h x) (sK h k x) (d + 1) (a ||| wb p (sH h x))) (fun x hx a h1 h2 => ?_) a h1 h2
    obtain ⟨o1, o2, o3⟩ := okc_parts (mem_rst hx)
    have okx : pOk n (sH h x) (sK h k x) := pOk_sw ok (show x / 10 < n by omega) o2 o3
    have vx : invH n p hope (sH h x) (sK h k x) := invH_sw ok v (show x / 10 < n by omega) o2 o3
    obtain ⟨g1, g2, g3⟩ := ih (sH h x) (sK h k x) (d + 1) (a ||| wb p (sH h x)) okx vx (or_lt64 _ h1 _ (wb_lt (okx.2 p hp).1)) (sb_or h2 vx.1)
    exact ⟨g1, sb_trans (sb_left _ _) g2, g3⟩
theorem walk_fold' {α : Type} {n : Nat} (hn : n ≤ 4) {h k : Nat → Nat} (S : Nat → Nat → α → α) (a : α) : (List.range' 0 n).foldl (fun s i => (List.range' (i + 1) (n - (i + 1))).foldl (fun (s : α) j => if canB h k i j = true then S i j s else s) s) a = (rst n h k 40 0).foldl (fun a c => S (c / 10) (c % 10) a) a := by
  rw [nest_cl hn (fun i (s : α) j => if canB h k i j = true then S i j s else s), rst_cl hn]
  rw [← List.foldl_filter (f := fun (s : α) c => S (c / 10) (c % 10) s) (p := fun c => canB h k (c / 10) (c % 10))]
theorem z_eq64 {a b : Nat} (ha : a < 64) (hb : b < 64) : (Int32.ofNat a = Int32.ofNat b) ↔ a = b := z_eq (by omega) (by omega)
/-- once all is reached, nothing changes -/
theorem fold_full {β : Type} {hope : Nat} (T : β → Nat → Nat) : ∀ (l : List β), (∀ x ∈ l, T x hope = hope) → l.foldl (fun a x => T x a) hope = hope
  | [], _ => rfl
  | x :: l, h => by
    rw [List.foldl_cons, h x List.mem_cons_self]
    exact fold_full T l (fun y hy => h y (List.mem_cons_of_mem _ hy))
section COME
variable {n : Nat} {h k : Nat → Nat} {hd kn : Nat → Int32} {made p hope : Nat} {S : Nat → Nat → Nat → Nat} {rc : Int32 → (Nat → Int32) → (Nat → Int32) → Int32 → Int32 → Int32 → Int32 → Option (Int32 × (Nat → Int32) × (Nat → Int32))}
theorem aC_come_in (ok : pOk n h k) (c : pC n h k hd kn) (hm : ∀ i j, i < n → j < n → canB h k i j = true → made < 12) (hmd : made < 100) (hh : hope < 64)
    (hS : ∀ i j a, i < n → j < n → canB h k i j = true → a < 64 → sb a hope → S i j a < 64 ∧ sb a (S i j a) ∧ sb (S i j a) hope)
    (hrc : ∀ i j hd' kn' a, i < n → j < n → canB h k i j = true → pC n (swH h i j) (swK h k i j) hd' kn' → a < 64 → sb a hope → rc (Int32.ofNat n) hd' kn' (Int32.ofNat p) (Int32.ofNat a) (Int32.ofNat hope) (Int32.ofNat (made + 1)) = some (Int32.ofNat (S i j a), hd', kn')) {i : Nat} (hi : i < n)
    (kk : Int32 → Int32 → (Nat → Int32) → (Nat → Int32) → Option (Int32 × (Nat → Int32) × (Nat → Int32))) : ∀ (jn j N a : Nat), j + jn = n → jn < N → a < 64 → sb a hope →
      ∃ a' x, a' = (List.range' j jn).foldl (fun s j => if canB h k i j = true then S i j s else s) a ∧ a' < 64 ∧ sb a' hope ∧ fX2_come_L37 (Int32.ofNat n) (Int32.ofNat p) (Int32.ofNat hope) (Int32.ofNat made) rc (Int32.ofNat i) kk N (Int32.ofNat a) (Int32.ofNat j) hd kn = kk (Int32.ofNat a') x hd kn := by
  have hn := ok.1
  intro jn
  induction jn with
  | zero =>
    intro j N a hj hN h1 h2
    obtain ⟨N, rfl⟩ : ∃ M, N = M + 1 := ⟨N - 1, by omega⟩
    refine ⟨a, Int32.ofNat n, rfl, h1, h2, ?_⟩
    show fX2_come_B37 _ _ _ _ _ _ _ _ _ _ _ _ = _
    unfold fX2_come_B37
    rw [show j = n by omega, if_pos (Int32.le_refl _)]
  | succ jn ih =>
    intro j N a hj hN h1 h2
    obtain ⟨N, rfl⟩ : ∃ M, N = M + 1 := ⟨N - 1, by omega⟩
    by_cases hfull : a = hope
    · subst hfull
      refine ⟨a, Int32.ofNat j, ?_, h1, h2, ?_⟩
      · refine (fold_full (fun j s => if canB h k i j = true then S i j s else s) _ (fun x hx => ?_)).symm
        have hxn : x < n := by have := (List.mem_range'_1.mp hx).2; omega
        show (if canB h k i x = true then S i x a else a) = a
        by_cases hc : canB h k i x = true
        · rw [if_pos hc]
          obtain ⟨g1, g2, g3⟩ := hS i x a hi hxn hc h1 h2
          exact sb_anti g3 g2
        · rw [if_neg hc]
      · show fX2_come_B37 _ _ _ _ _ _ _ _ _ _ _ _ = _
        unfold fX2_come_B37
        rw [if_neg (fun q => absurd ((z_le (by omega) (by omega)).mp q) (by omega)), if_pos rfl]
    · rw [List.range'_succ, List.foldl_cons]
      have hne : ¬ Int32.ofNat a = Int32.ofNat hope := fun q => hfull ((z_eq64 h1 hh).mp q)
      by_cases hc : canB h k i j = true
      · have m12 := hm i j hi (by omega) hc
        obtain ⟨g1, g2, g3⟩ := hS i j a hi (by omega) hc h1 h2
        obtain ⟨a', x, e1, e2, e3, e4⟩ := ih (j + 1) N (S i j a) (by omega) (by omega) g1 g3
        refine ⟨a', x, by rw [if_pos hc]; exact e1, e2, e3, ?_⟩
        rw [← e4]
        show fX2_come_B37 _ _ _ _ _ _ _ _ _ _ _ _ = _
        unfold fX2_come_B37
        rw [if_neg (fun q => absurd ((z_le (by omega) (by omega)).mp q) (by omega)), if_neg hne, if_neg (show ¬ (12 : Int32) ≤ Int32.ofNat made from fun q => absurd ((z_le (a := 12) (b := made) (by omega) (by omega)).mp q) (by omega))]
        simp only [nh_let, z_succ]
        rw [aC_can ok c hi (show j < n by omega), hc]
        obtain ⟨hd', kn', w1, w2, w3, w4⟩ := aC_swap ok c hi (show j < n by omega) hc
        simp only [nh_b1]
        rw [if_neg (show ¬ b01 true = 0 by decide), w1]
        simp only [nh_b2]
        rw [hrc i j hd' kn' a hi (by omega) hc w2 h1 h2]
        simp only [nh_b3]
        rw [w4]
      · obtain ⟨a', x, e1, e2, e3, e4⟩ := ih (j + 1) N a (by omega) (by omega) h1 h2
        refine ⟨a', x, by rw [if_neg hc]; exact e1, e2, e3, ?_⟩
        rw [← e4]
        show fX2_come_B37 _ _ _ _ _ _ _ _ _ _ _ _ = _
        unfold fX2_come_B37
        rw [if_neg (fun q => absurd ((z_le (by omega) (by omega)).mp q) (by omega)), if_neg hne]
        simp only [nh_let, z_succ]
        rw [aC_can ok c hi (show j < n by omega), show canB h k i j = false by simpa using hc]
        simp only [nh_b1]
        rw [if_pos (show b01 false = 0 from rfl)]
        split <;> rfl
theorem aC_come_out (ok : pOk n h k) (c : pC n h k hd kn) (hm : ∀ i j, i < n → j < n → canB h k i j = true → made < 12) (hmd : made < 100) (hh : hope < 64)
    (hS : ∀ i j a, i < n → j < n → canB h k i j = true → a < 64 → sb a hope → S i j a < 64 ∧ sb a (S i j a) ∧ sb (S i j a) hope)
    (hrc : ∀ i j hd' kn' a, i < n → j < n → canB h k i j = true → pC n (swH h i j) (swK h k i j) hd' kn' → a < 64 → sb a hope → rc (Int32.ofNat n) hd' kn' (Int32.ofNat p) (Int32.ofNat a) (Int32.ofNat hope) (Int32.ofNat (made + 1)) = some (Int32.ofNat (S i j a), hd', kn')) {F : Nat} (hF : 6 ≤ F)
    (kk : Int32 → Int32 → (Nat → Int32) → (Nat → Int32) → Option (Int32 × (Nat → Int32) × (Nat → Int32))) : ∀ (jn i N a : Nat), i + jn = n → jn < N → a < 64 → sb a hope →
      ∃ a' x, a' = (List.range' i jn).foldl (fun s i => (List.range' (i + 1) (n - (i + 1))).foldl (fun s j => if canB h k i j = true then S i j s else s) s) a ∧ a' < 64 ∧ sb a' hope ∧ fX2_come_L16 (Int32.ofNat n) (Int32.ofNat p) (Int32.ofNat hope) (Int32.ofNat made) rc F kk N (Int32.ofNat a) (Int32.ofNat i) hd kn = kk (Int32.ofNat a') x hd kn := by
  have hn := ok.1
  intro jn
  induction jn with
  | zero =>
    intro i N a hj hN h1 h2
    obtain ⟨N, rfl⟩ : ∃ M, N = M + 1 := ⟨N - 1, by omega⟩
    refine ⟨a, Int32.ofNat n, rfl, h1, h2, ?_⟩
    show fX2_come_B16 _ _ _ _ _ _ _ _ _ _ _ _ = _
    unfold fX2_come_B16
    rw [show i = n by omega, if_pos (Int32.le_refl _)]
  | succ jn ih =>
    intro i N a hj hN h1 h2
    obtain ⟨N, rfl⟩ : ∃ M, N = M + 1 := ⟨N - 1, by omega⟩
    by_cases hfull : a = hope
    · subst hfull
      refine ⟨a, Int32.ofNat i, ?_, h1, h2, ?_⟩
      · refine (fold_full (fun i s => (List.range' (i + 1) (n - (i + 1))).foldl (fun s j => if canB h k i j = true then S i j s else s) s) _ (fun y hy => ?_)).symm
        have hyn : y < n := by have := (List.mem_range'_1.mp hy).2; omega
        refine fold_full (fun j s => if canB h k y j = true then S y j s else s) _ (fun x hx => ?_)
        have hxn : x < n := by have := (List.mem_range'_1.mp hx).2; omega
        show (if canB h k y x = true then S y x a else a) = a
        by_cases hc : canB h k y x = true
        · rw [if_pos hc]
          obtain ⟨g1, g2, g3⟩ := hS y x a hyn hxn hc h1 h2
          exact sb_anti g3 g2
        · rw [if_neg hc]
      · show fX2_come_B16 _ _ _ _ _ _ _ _ _ _ _ _ = _
        unfold fX2_come_B16
        rw [if_neg (fun q => absurd ((z_le (by omega) (by omega)).mp q) (by omega)), if_pos rfl]
    · rw [List.range'_succ, List.foldl_cons]
      have hne : ¬ Int32.ofNat a = Int32.ofNat hope := fun q => hfull ((z_eq64 h1 hh).mp q)
      obtain ⟨a1, x1, f1, f2, f3, f4⟩ := aC_come_in ok c hm hmd hh hS hrc (show i < n by omega) (fun x5_18 x7_19 a0_held_20 a0_known_21 => nh_let (α := Int32) (Int32.ofNat i + 1) (fun x6_41 => (fX2_come_L16 (Int32.ofNat n) (Int32.ofNat p) (Int32.ofNat hope) (Int32.ofNat made) rc F kk N) x5_18 x6_41 a0_held_20 a0_known_21)) (n - (i + 1)) (i + 1) F a (by omega) (by omega) h1 h2
      obtain ⟨a', x, e1, e2, e3, e4⟩ := ih (i + 1) N a1 (by omega) (by omega) f2 f3
      refine ⟨a', x, by rw [e1, f1], e2, e3, ?_⟩
      rw [← e4]
      show fX2_come_B16 _ _ _ _ _ _ _ _ _ _ _ _ = _
      unfold fX2_come_B16
      rw [if_neg (fun q => absurd ((z_le (by omega) (by omega)).mp q) (by omega)), if_neg hne]
      simp only [nh_let, z_succ] at f4 ⊢
      rw [f4]
end COME
theorem aC_come {n p F hope : Nat} (hp : p < n) (hF : 6 ≤ F) (hh : hope < 64) : ∀ (f : Nat) (h k : Nat → Nat) (hd kn : Nat → Int32) (made bef : Nat), pOk n h k → pC n h k hd kn → remS k n < 2 * f → remS k n + 2 * made ≤ 24 → bef < 64 → sb bef hope → invH n p hope h k → fX2_come F f (Int32.ofNat n) hd kn (Int32.ofNat p) (Int32.ofNat bef) (Int32.ofNat hope) (Int32.ofNat made) = some (Int32.ofNat (dfsO p n f h k made (bef ||| wb p h)), hd, kn) := by
  intro f
  induction f with
  | zero => intro h k hd kn made bef ok c hr; omega
  | succ f ih =>
    intro h k hd kn made bef ok c hr hmd hb hbs v
    have hn := ok.1
    have vp := (ok.2 p hp).1
    show fX2_come_R F (fX2_come F f) _ _ _ _ _ _ _ = _
    unfold fX2_come_R
    rw [z_chk (show p < 4 by omega) (by omega), z_ix (by omega), (c p hp).1, aC_bit _ (by omega)]
    have ew : (if h p = 6 then (0 : Int32) else Int32.ofNat (2 ^ h p)) = Int32.ofNat (wb p h) := by unfold wb; split <;> rfl
    rw [ew, z_oro _ hb _ (wb_lt vp)]
    simp only [nh_let]
    have h1 := or_lt64 _ hb _ (wb_lt vp)
    have h2 := sb_or hbs v.1
    obtain ⟨a', x, e1, e2, e3, e4⟩ := aC_come_out (S := fun i j a => dfsO p n f (swH h i j) (swK h k i j) (made + 1) (a ||| wb p (swH h i j))) ok c (made := made) (fun i j hi hj hc => by have := rem_sw ok hi hj hc; omega) (by omega) hh
      (fun i j a hi hj hc h1 h2 => by
        have okx := pOk_sw ok hi hj hc
        have vx := invH_sw ok v hi hj hc
        obtain ⟨g1, g2, g3⟩ := dfsO_in hp f (swH h i j) (swK h k i j) (made + 1) (a ||| wb p (swH h i j)) okx vx (or_lt64 _ h1 _ (wb_lt (okx.2 p hp).1)) (sb_or h2 vx.1)
        exact ⟨g1, sb_trans (sb_left _ _) g2, g3⟩)
      (fun i j hd' kn' a hi hj hc c' h1 h2 => ih _ _ _ _ _ a (pOk_sw ok hi hj hc) c' (by have := rem_sw ok hi hj hc; omega) (by have := rem_sw ok hi hj hc; omega) h1 h2 (invH_sw ok v hi hj hc)) hF (fun x5_7 x6_8 a0_held_9 a0_known_10 => some (x5_7, a0_held_9, a0_known_10)) n 0 F (bef ||| wb p h) (by omega) (by omega) h1 h2
    rw [walk_fold' hn] at e1
    rw [dfsO_succ]
    refine Eq.trans e4 ?_
    rw [e1]
    rfl
