/-! turns, first: the two sides answer alike -/
theorem trS_snd {h k w : Nat → Nat} {R : Nat → (Nat → Nat)} {p : Nat} : ∀ (l : List Nat) (b : (Nat → Nat) × Int32), (∀ i ∈ l, i < 4) → (b.2 = -9 ∨ ∃ i, i < 4 ∧ b.2 = Int32.ofNat i) → ((l.foldl (trS h k w R p) b).2 = -9 ∨ ∃ i, i < 4 ∧ (l.foldl (trS h k w R p) b).2 = Int32.ofNat i)
  | [], b, _, hb => hb
  | i :: l, b, hl, hb => by
    rw [List.foldl_cons]
    refine trS_snd l _ (fun j hj => hl j (List.mem_cons_of_mem _ hj)) ?_
    unfold trS
    split
    · split
      · exact hb
      · exact Or.inr ⟨i, hl i List.mem_cons_self, rfl⟩
    · exact hb
theorem trn_snd {n : Nat} (hn : n ≤ 4) {w : Nat → Nat} : ∀ (m t : Nat) (h k : Nat → Nat), (trn n w m t h k).2 = -9 ∨ ∃ i, i < 4 ∧ (trn n w m t h k).2 = Int32.ofNat i
  | 0, _, _, _ => Or.inl rfl
  | m + 1, t, h, k => trS_snd _ _ (fun i hi => by have := (List.mem_range'_1.mp hi).2; omega) (Or.inl rfl)
theorem z_16 (a : Int32) : (a < 1) ∨ (¬ a < 1 ∧ ¬ a ≤ 6) ∨ ∃ K : Nat, a = Int32.ofNat K ∧ 1 ≤ K ∧ K ≤ 6 := by
  by_cases h1 : a < 1
  · exact Or.inl h1
  · by_cases h6 : a ≤ 6
    · right; right
      rcases z_cases a with g | ⟨K, rfl, hK⟩
      · refine absurd ?_ h1
        rw [Int32.lt_iff_toInt_lt] at g ⊢
        have e0 : (0 : Int32).toInt = 0 := rfl
        have e1 : (1 : Int32).toInt = 1 := rfl
        omega
      · refine ⟨K, rfl, ?_, (z_le (a := K) (b := 6) hK (by omega)).mp h6⟩
        have : ¬ K < 1 := fun q => h1 ((z_lt (a := K) (b := 1) hK (by omega)).mpr q)
        omega
    · exact Or.inr (Or.inl ⟨h1, h6⟩)
theorem mM_in16 (a : Int32) : fX11_in (Int32.toInt64 a) 1 6 = b01 (decide (1 ≤ a ∧ a ≤ 6)) := by
  rw [show (1 : Int64) = Int32.toInt64 1 from rfl, show (6 : Int64) = Int32.toInt64 6 from rfl, mM_in]
theorem in16_bad {a : Int32} (h : a < 1 ∨ ¬ a < 1 ∧ ¬ a ≤ 6) : fX11_in (Int32.toInt64 a) 1 6 = 0 := by
  rw [mM_in16, decide_eq_false]
  · rfl
  · rintro ⟨g1, g2⟩
    rcases h with h | ⟨-, h⟩
    · exact Int32.not_lt.mpr g1 h
    · exact h g2
theorem in16_ok {K : Nat} (h1 : 1 ≤ K) (h6 : K ≤ 6) : fX11_in (Int32.toInt64 (Int32.ofNat K)) 1 6 = 1 := by
  rw [mM_in16, decide_eq_true]
  · rfl
  · exact ⟨(z_le (a := 1) (b := K) (by omega) (by omega)).mpr h1, (z_le (a := K) (b := 6) (by omega) (by omega)).mpr h6⟩
section TURNS
variable {n : Nat} {h k w : Nat → Nat} {hd kn wo wm had holds : Nat → Int32}
theorem pair_turns (ok : pOk n h k) (c : pC n h k hd kn) (cm : pM n h k had holds 0) (hw : wOk n w wo) (hm : wOk n w wm) (a b : Int32) : ∀ F, UBF ≤ F → ∀ (op en th : Int32) (act outcome tried value : Nat → Int32), ∃ r op' en' act' had' holds' outcome' tried' value', fX10_turns F op en (Int32.ofNat n) hd kn wo a b = some (r, op', en', hd, kn) ∧ fX11_turns F th (Int32.ofNat n) act had holds outcome tried value wm a b = some (r, 0, act', had', holds', outcome', tried', value') ∧ pM n h k had' holds' 0 := by
  have hn := ok.1
  unfold fX10_turns fX11_turns
  rcases mM_noOne_or hn b with ⟨e1, e2⟩ | ⟨p, hp, rfl, e1, e2⟩
  · refine fun F hF op en th act outcome tried value => ⟨-1, op, en, act, had, holds, outcome, tried, value, ?_, ?_, cm⟩
    · rw [e2, if_pos rfl]
    · rw [e1, if_neg (by decide)]
  · rcases z_16 a with g | g | ⟨K, rfl, K1, K6⟩
    · refine fun F hF op en th act outcome tried value => ⟨-2, op, en, act, had, holds, outcome, tried, value, ?_, ?_, cm⟩
      · rw [e2, if_neg (by decide), if_pos g]
      · rw [e1, if_pos rfl, in16_bad (Or.inl g), if_pos rfl]
    · refine fun F hF op en th act outcome tried value => ⟨-2, op, en, act, had, holds, outcome, tried, value, ?_, ?_, cm⟩
      · rw [e2, if_neg (by decide), if_neg g.1, if_neg g.2]
      · rw [e1, if_pos rfl, in16_bad (Or.inr g), if_pos rfl]
    · intro F hU op en th act outcome tried value
      have hF : 10 + stT n w K 0 h k ≤ F := Nat.le_trans (ub_stT hn w K6 0 h k) hU
      obtain ⟨act', had', holds', outcome', tried', value', f1, f2, f3, f4⟩ := mM_goTurns (act := act) (outcome := outcome) (tried := tried) (value := value) ok cm hm (by omega) K6 K1 hF
      have be := trn_ok (w := w) K 0 h k ok
      refine ⟨cH ((trn n w K 0 h k).1 p), (trn n w K 0 h k).2, Int32.ofNat (pkN (trn n w K 0 h k).1 n), act', had', holds', outcome', tried', value', ?_, ?_, f2⟩
      · rw [e2, if_neg (by decide), if_neg (show ¬ Int32.ofNat K < 1 from fun z => absurd ((z_lt (a := K) (b := 1) (by omega) (by omega)).mp z) (by omega)), if_pos (show Int32.ofNat K ≤ 6 from (z_le (a := K) (b := 6) (by omega) (by omega)).mpr K6), aC_play ok c hw (by omega) K6 (by omega)]
        simp only [nh_b4]
        unfold fX8_holdsInTheEnd
        rw [aC_thingIn hn be hp]
      · rw [e1, if_pos rfl, in16_ok K1 K6, if_neg (by decide), f1]
        simp only [nh_b6]
        rw [z_chk (show p < 28 by omega) (by omega), z_ix (by omega), f3 p hp]
        have v := be p hp
        by_cases h6 : (trn n w K 0 h k).1 p = 6
        · rw [if_pos ((z_eq6 v).mpr h6), h6]; rfl
        · rw [if_neg (fun z => h6 ((z_eq6 v).mp z)), cH_lt (by omega)]
          simp only [z_chk (show p < 28 by omega) (show 28 < 2147483648 by omega)]
theorem pair_first (ok : pOk n h k) (c : pC n h k hd kn) (cm : pM n h k had holds 0) (hw : wOk n w wo) (hm : wOk n w wm) (a : Int32) : ∀ F, UBF ≤ F → ∀ (op en th : Int32) (act outcome tried value : Nat → Int32), ∃ r op' en' act' had' holds' outcome' tried' value', fX10_first F op en (Int32.ofNat n) hd kn wo a = some (r, op', en', hd, kn) ∧ fX11_first F th (Int32.ofNat n) act had holds outcome tried value wm a = some (r, 0, act', had', holds', outcome', tried', value') ∧ pM n h k had' holds' 0 := by
  have hn := ok.1
  unfold fX10_first fX11_first
  rcases z_16 a with g | g | ⟨K, rfl, K1, K6⟩
  · refine fun F hF op en th act outcome tried value => ⟨-2, op, en, act, had, holds, outcome, tried, value, ?_, ?_, cm⟩
    · rw [if_pos g]
    · rw [in16_bad (Or.inl g), if_pos rfl]
  · refine fun F hF op en th act outcome tried value => ⟨-2, op, en, act, had, holds, outcome, tried, value, ?_, ?_, cm⟩
    · rw [if_neg g.1, if_neg g.2]
    · rw [in16_bad (Or.inr g), if_pos rfl]
  · have i1 : ¬ Int32.ofNat K < 1 := fun z => absurd ((z_lt (a := K) (b := 1) (by omega) (by omega)).mp z) (by omega)
    have i2 : Int32.ofNat K ≤ 6 := (z_le (a := K) (b := 6) (by omega) (by omega)).mpr K6
    by_cases h0 : n = 0
    · subst h0
      intro F hU op en th act outcome tried value
      have hF : 6 ≤ F := by have := ub_300; omega
      refine ⟨-9, -9, 0, act, had, holds, outcome, tried, value, ?_, ?_, cm⟩
      · rw [if_neg i1, if_pos i2, aC_play0 (w := w) ok c K6 K1 hF]; rfl
      · rw [in16_ok K1 K6, if_neg (by decide), if_pos (by decide)]
    · intro F hU op en th act outcome tried value
      have hF : 10 + stT n w K 0 h k ≤ F := Nat.le_trans (ub_stT hn w K6 0 h k) hU
      obtain ⟨act', had', holds', outcome', tried', value', f1, f2, f3, f4⟩ := mM_goTurns (act := act) (outcome := outcome) (tried := tried) (value := value) ok cm hm (by omega) K6 K1 hF
      refine ⟨(trn n w K 0 h k).2, (trn n w K 0 h k).2, Int32.ofNat (pkN (trn n w K 0 h k).1 n), act', had', holds', outcome', tried', value', ?_, ?_, f2⟩
      · rw [if_neg i1, if_pos i2, aC_play ok c hw (by omega) K6 (by omega)]
        rfl
      · rw [in16_ok K1 K6, if_neg (by decide), if_neg (show ¬ Int32.ofNat n = 0 from fun z => h0 ((z_eq (a := n) (b := 0) (by omega) (by omega)).mp z)), f1]
        simp only [nh_b6]
        rw [show act' (Int32.toNatClampNeg (0 : Int32)) = cdA (trn n w K 0 h k).2 from f4]
        have hc : ∀ i : Nat, i < 4 → ¬ Int32.ofNat i = -1 ∧ ¬ Int32.ofNat i = -9 := by decide +kernel
        unfold cdA
        rcases trn_snd hn (w := w) K 0 h k with z | ⟨i, hi, z⟩
        · rw [z]; rfl
        · rw [z, if_neg (hc i hi).2, if_neg (hc i hi).1]
end TURNS
