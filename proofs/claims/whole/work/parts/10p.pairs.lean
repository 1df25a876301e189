/-! the plain calls: the two sides answer alike -/
section PAIRS
variable {n : Nat} {h k w : Nat → Nat} {hd kn wo wm had holds : Nat → Int32}
theorem pair_holds (ok : pOk n h k) (c : pC n h k hd kn) (cm : pM n h k had holds 0) (a th : Int32) : ∃ r, fX10_holds (Int32.ofNat n) hd a = some r ∧ fX11_holds th (Int32.ofNat n) holds a = some (r, 0) := by
  have hn := ok.1
  unfold fX10_holds fX11_holds
  rcases mM_noOne_or hn a with ⟨e1, e2⟩ | ⟨p, hp, rfl, e1, e2⟩
  · exact ⟨-1, by rw [e2, if_pos rfl], by rw [e1, if_neg (by decide)]⟩
  · have v := (ok.2 p hp).1
    have q := (cm p hp).1
    rw [Nat.mul_zero, Nat.zero_add] at q
    refine ⟨cH (h p), ?_, ?_⟩
    · rw [e2, if_neg (by decide), z_chk (show p < 4 by omega) (by omega), z_ix (by omega), (c p hp).1]
    · rw [e1, if_pos rfl, z_chk (show p < 56 by omega) (by omega), z_ix (by omega), q, z_chk (show p < 56 by omega) (by omega)]
      by_cases h6 : h p = 6
      · rw [if_pos ((z_eq6 v).mpr h6), h6]; rfl
      · rw [if_neg (fun z => h6 ((z_eq6 v).mp z)), cH_lt (by omega)]
theorem pair_had (ok : pOk n h k) (c : pC n h k hd kn) (cm : pM n h k had holds 0) (a th : Int32) : ∃ r, fX10_had (Int32.ofNat n) kn a = some r ∧ fX11_had th (Int32.ofNat n) had a = some (r, 0) := by
  have hn := ok.1
  unfold fX10_had fX11_had
  rcases mM_noOne_or hn a with ⟨e1, e2⟩ | ⟨p, hp, rfl, e1, e2⟩
  · exact ⟨-1, by rw [e2, if_pos rfl], by rw [e1, if_neg (by decide)]⟩
  · have q := (cm p hp).2
    rw [Nat.mul_zero, Nat.zero_add] at q
    refine ⟨Int32.ofNat (k p), ?_, ?_⟩
    · rw [e2, if_neg (by decide), z_chk (show p < 4 by omega) (by omega), z_ix (by omega), (c p hp).2]
    · rw [e1, if_pos rfl, z_chk (show p < 56 by omega) (by omega), z_ix (by omega), q]
theorem pair_worth (ok : pOk n h k) (hw : wOk n w wo) (hm : wOk n w wm) (a b th : Int32) : ∃ r, fX10_worth (Int32.ofNat n) wo a b = some r ∧ fX11_worth th (Int32.ofNat n) wm a b = some (r, 0) := by
  have hn := ok.1
  unfold fX10_worth fX11_worth
  rcases mM_noOne_or hn a with ⟨e1, e2⟩ | ⟨p, hp, rfl, e1, e2⟩
  · exact ⟨-1, by rw [e2, if_pos rfl], by rw [e1, if_neg (by decide)]⟩
  · rcases mM_noSort_or b with ⟨f1, f2⟩ | ⟨s, hs, rfl, f1, f2⟩
    · exact ⟨-1, by rw [e2, if_neg (by decide), f2, if_pos rfl], by rw [e1, if_pos rfl, f1, if_neg (by decide)]⟩
    · have g := aC_worth hn hw hp (show s ≤ 6 by omega)
      rw [cH_lt hs, if_neg (show ¬ s = 6 by omega)] at g
      refine ⟨Int32.ofNat (w (6 * p + s)), ?_, ?_⟩
      · rw [e2, if_neg (by decide), f2, if_neg (by decide), g]; rfl
      · rw [e1, if_pos rfl, f1, if_pos rfl, show (6 : Int32) = Int32.ofNat 6 from rfl, z_mul, z_add, z_chk (show 6 * p + s < 24 by omega) (by omega), z_ix (by omega), (hm p s hp hs).1]
theorem pair_may (ok : pOk n h k) (c : pC n h k hd kn) (cm : pM n h k had holds 0) (a b th : Int32) : ∃ r, fX10_may (Int32.ofNat n) hd kn a b = some r ∧ fX11_may th (Int32.ofNat n) had holds a b = some (r, 0) := by
  have hn := ok.1
  unfold fX10_may fX11_may
  rcases mM_noOne_or hn a with ⟨e1, e2⟩ | ⟨p, hp, rfl, e1, e2⟩
  · exact ⟨-1, by rw [e2, if_pos rfl], by rw [e1, if_neg (by decide)]⟩
  · rcases mM_noOne_or hn b with ⟨f1, f2⟩ | ⟨q, hq, rfl, f1, f2⟩
    · exact ⟨-1, by rw [e2, if_neg (by decide), f2, if_pos rfl], by rw [e1, if_pos rfl, f1, if_neg (by decide)]⟩
    · rw [e1, e2, f1, f2, if_neg (by decide), if_neg (by decide), if_pos rfl, if_pos rfl]
      by_cases e : Int32.ofNat p = Int32.ofNat q
      · exact ⟨-2, by rw [if_pos e], by rw [if_pos e]⟩
      · rw [if_neg e, if_neg e, aC_can ok c hp hq, show (0 : Int32) = Int32.ofNat 0 from rfl, mM_may ok cm (by omega) hp hq]
        cases canB h k p q with
        | false => exact ⟨0, rfl, rfl⟩
        | true => exact ⟨1, rfl, rfl⟩
theorem z_09 (a : Int32) : (a < 0) ∨ (¬ a < 0 ∧ ¬ a ≤ 9) ∨ ∃ K : Nat, a = Int32.ofNat K ∧ K ≤ 9 := by
  rcases z_cases a with g | ⟨K, rfl, hK⟩
  · exact Or.inl g
  · by_cases h9 : K ≤ 9
    · exact Or.inr (Or.inr ⟨K, rfl, h9⟩)
    · exact Or.inr (Or.inl ⟨z_nn hK, fun z => h9 ((z_le (a := K) (b := 9) hK (by omega)).mp z)⟩)
theorem mM_in09 (a : Int32) : fX11_in (Int32.toInt64 a) 0 9 = b01 (decide (0 ≤ a ∧ a ≤ 9)) := by
  rw [show (0 : Int64) = Int32.toInt64 0 from rfl, show (9 : Int64) = Int32.toInt64 9 from rfl, mM_in]
theorem pair_value (ok : pOk n h k) (hw : wOk n w wo) (hm : wOk n w wm) (a b v th : Int32) : ∃ r w' wo' wm', fX10_value (Int32.ofNat n) wo a b v = some (r, wo') ∧ fX11_value th (Int32.ofNat n) wm a b v = some (r, 0, wm') ∧ wOk n w' wo' ∧ wOk n w' wm' := by
  have hn := ok.1
  unfold fX10_value fX11_value
  rcases mM_noOne_or hn a with ⟨e1, e2⟩ | ⟨p, hp, rfl, e1, e2⟩
  · exact ⟨-1, w, wo, wm, by rw [e2, if_pos rfl], by rw [e1, if_neg (by decide)], hw, hm⟩
  · rcases mM_noSort_or b with ⟨f1, f2⟩ | ⟨s, hs, rfl, f1, f2⟩
    · exact ⟨-1, w, wo, wm, by rw [e2, if_neg (by decide), f2, if_pos rfl], by rw [e1, if_pos rfl, f1, if_neg (by decide)], hw, hm⟩
    · rcases z_09 v with g | g | ⟨K, rfl, K9⟩
      · refine ⟨-2, w, wo, wm, by rw [e2, if_neg (by decide), f2, if_neg (by decide), if_pos g], ?_, hw, hm⟩
        rw [e1, if_pos rfl, f1, if_pos rfl, mM_in09, decide_eq_false (fun z => Int32.not_lt.mpr z.1 g), if_pos (by decide)]
      · refine ⟨-2, w, wo, wm, by rw [e2, if_neg (by decide), f2, if_neg (by decide), if_neg g.1, if_neg g.2], ?_, hw, hm⟩
        rw [e1, if_pos rfl, f1, if_pos rfl, mM_in09, decide_eq_false (fun z => g.2 z.2), if_pos (by decide)]
      · have gw := aC_worth hn hw hp (show s ≤ 6 by omega)
        rw [cH_lt hs, if_neg (show ¬ s = 6 by omega)] at gw
        have hset : ∀ wx : Nat → Int32, wOk n w wx → wOk n (fun i => if i = 6 * p + s then K else w i) (upd wx (6 * p + s) (Int32.ofNat K)) := fun wx hx q t hq ht => by
          by_cases e : 6 * q + t = 6 * p + s
          · rw [e, upd_same]; dsimp only; rw [if_pos rfl]; exact ⟨rfl, K9⟩
          · rw [upd_ne e]; dsimp only; rw [if_neg e]; exact hx q t hq ht
        refine ⟨Int32.ofNat (w (6 * p + s)), (fun i => if i = 6 * p + s then K else w i), upd wo (6 * p + s) (Int32.ofNat K), upd wm (6 * p + s) (Int32.ofNat K), ?_, ?_, hset wo hw, hset wm hm⟩
        · rw [e2, if_neg (by decide), f2, if_neg (by decide), if_neg (z_nn (by omega)), if_pos (show Int32.ofNat K ≤ 9 from (z_le (a := K) (b := 9) (by omega) (by omega)).mpr K9), gw]
          simp only [nh_b1]
          unfold fX1_setWorth
          rw [e2, if_neg (by decide), f2, if_neg (by decide)]
          simp only [show (6 : Int32) = Int32.ofNat 6 from rfl, z_mul, z_add, show p * 6 + s = 6 * p + s by omega, z_chk (show 6 * p + s < 24 by omega) (show 24 < 2147483648 by omega), z_ix (show 6 * p + s < 2147483648 by omega), nh_let]
        · rw [e1, if_pos rfl, f1, if_pos rfl, mM_in09, decide_eq_true (show 0 ≤ Int32.ofNat K ∧ Int32.ofNat K ≤ 9 from ⟨(z_le (a := 0) (b := K) (by omega) (by omega)).mpr (by omega), (z_le (a := K) (b := 9) (by omega) (by omega)).mpr K9⟩), if_neg (by decide)]
          simp only [show (6 : Int32) = Int32.ofNat 6 from rfl, z_mul, z_add, z_chk (show 6 * p + s < 24 by omega) (show 24 < 2147483648 by omega), z_ix (show 6 * p + s < 2147483648 by omega), nh_let, (hm p s hp hs).1]
theorem pair_rings (ok : pOk n h k) (c : pC n h k hd kn) (cm : pM n h k had holds 0) (hw : wOk n w wo) (hm : wOk n w wm) {F : Nat} (hF : 300 ≤ F) (bg bt : Int32) (bf fr : Nat → Int32) (th bm : Int32) (be fm : Nat → Int32) : ∃ r bg' bt' bf' fr' bm' be' fm', fX10_rings F bg bt bf fr (Int32.ofNat n) hd kn wo = some (r, bg', bt', bf', fr') ∧ fX11_rings F th (Int32.ofNat n) bm be fm had holds wm = some (r, 0, bm', be', fm') := by
  have hn := ok.1
  obtain ⟨bg', bt', bf', fr', e1, e2⟩ := aC_rings ok c hw (show 6 ≤ F by omega) bg bt bf fr
  obtain ⟨bm', x1', be', fm', f1, f2⟩ := mM_rings ok cm hm hF bm be fm
  have es : bg' = bm' := by
    cases hr : ringsR n h k w with
    | none => exact absurd hr (rings_some hn h k w)
    | some a => rw [hr] at e2 f2; exact e2.1.trans f2.1.symm
  subst es
  refine ⟨bg', bg', bt', bf', fr', bg', be', fm', ?_, ?_⟩
  · unfold fX10_rings; rw [e1]; rfl
  · unfold fX11_rings; rw [f1]; rfl
theorem pair_ringAt (ok : pOk n h k) (c : pC n h k hd kn) (cm : pM n h k had holds 0) (hw : wOk n w wo) (hm : wOk n w wm) {F : Nat} (hF : 300 ≤ F) (bg bt : Int32) (bf fr : Nat → Int32) (th bm : Int32) (be fm : Nat → Int32) (a : Int32) : ∃ r bg' bt' bf' fr' bm' be' fm', fX10_ringAt F bg bt bf fr (Int32.ofNat n) hd kn wo a = some (r, bg', bt', bf', fr') ∧ fX11_ringAt F th (Int32.ofNat n) bm be fm had holds wm a = some (r, 0, bm', be', fm') := by
  have hn := ok.1
  unfold fX10_ringAt fX11_ringAt
  rcases mM_noOne_or hn a with ⟨e1, e2⟩ | ⟨p, hp, rfl, e1, e2⟩
  · exact ⟨-1, bg, bt, bf, fr, bm, be, fm, by rw [e2, if_pos rfl], by rw [e1, if_neg (by decide)]⟩
  · obtain ⟨bg', bt', bf', fr', g1, g2⟩ := aC_rings ok c hw (show 6 ≤ F by omega) bg bt bf fr
    obtain ⟨bm', x1', be', fm', f1, f2⟩ := mM_rings ok cm hm hF bm be fm
    have es : bf' p = be' p := by
      cases hr : ringsR n h k w with
      | none => exact absurd hr (rings_some hn h k w)
      | some a => rw [hr] at g2 f2; exact (g2.2.2.2.2 p hp).trans (f2.2.2.2.2 p hp).symm
    refine ⟨bf' p, bg', bt', bf', fr', bm', be', fm', ?_, ?_⟩
    · rw [e2, if_neg (by decide), g1]
      simp only [nh_b4, z_chk (show p < 4 by omega) (show 4 < 2147483648 by omega), z_ix (show p < 2147483648 by omega)]
    · rw [e1, if_pos rfl, f1]
      simp only [nh_b3, z_chk (show p < 4 by omega) (show 4 < 2147483648 by omega), z_ix (show p < 2147483648 by omega), es]
theorem pair_want (hn : n ≤ 4) {wc wn : Nat → Int32} (e : ∀ p, p < 4 → wc p = wn p ∧ (wc p = -9 ∨ ∃ s : Nat, s < 6 ∧ wc p = Int32.ofNat s)) (a b th : Int32) : ∃ r wc' wn', fX10_want (Int32.ofNat n) wc a b = some (r, wc') ∧ fX11_want th (Int32.ofNat n) wn a b = some (r, 0, wn') ∧ ∀ p, p < 4 → wc' p = wn' p ∧ (wc' p = -9 ∨ ∃ s : Nat, s < 6 ∧ wc' p = Int32.ofNat s) := by
  unfold fX10_want fX11_want
  rcases mM_noOne_or hn a with ⟨e1, e2⟩ | ⟨p, hp, rfl, e1, e2⟩
  · exact ⟨-1, wc, wn, by rw [e2, if_pos rfl], by rw [e1, if_neg (by decide)], e⟩
  · have hset : (b = -9 ∨ ∃ s : Nat, s < 6 ∧ b = Int32.ofNat s) → ∀ q, q < 4 → upd wc p b q = upd wn p b q ∧ (upd wc p b q = -9 ∨ ∃ s : Nat, s < 6 ∧ upd wc p b q = Int32.ofNat s) := fun hb q hq => by
      by_cases g : q = p
      · rw [g, upd_same, upd_same]; exact ⟨rfl, hb⟩
      · rw [upd_ne g, upd_ne g]; exact e q hq
    rw [e2, e1, if_neg (by decide), if_pos rfl]
    simp only [z_chk (show p < 4 by omega) (show 4 < 2147483648 by omega), z_ix (show p < 2147483648 by omega), nh_let]
    by_cases b9 : b = -9
    · exact ⟨wc p, upd wc p b, upd wn p b, by rw [if_pos b9], by rw [if_pos b9, (e p (by omega)).1], hset (Or.inl b9)⟩
    · rcases mM_noSort_or b with ⟨f1, f2⟩ | ⟨s, hs, hb, f1, f2⟩
      · exact ⟨-1, wc, wn, by rw [if_neg b9, f2, if_pos rfl], by rw [if_neg b9, f1, if_neg (by decide)], e⟩
      · exact ⟨wc p, upd wc p b, upd wn p b, by rw [if_neg b9, f2, if_neg (by decide)], by rw [if_neg b9, f1, if_pos rfl, (e p (by omega)).1], hset (Or.inr ⟨s, hs, hb⟩)⟩
end PAIRS
