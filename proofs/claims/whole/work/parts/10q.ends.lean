/-! longest, shortest, runs, mayComeTo: the two sides answer alike -/
section ENDS
variable {n : Nat} {h k : Nat → Nat} {hd kn had holds : Nat → Int32}
theorem keep4 {had' holds' : Nat → Int32} (hn : n ≤ 4) (cm : pM n h k had holds 0) (q : ∀ q, q < 4 → had' q = had q ∧ holds' q = holds q) : pM n h k had' holds' 0 := fun p hp => by
  rw [(q (4 * 0 + p) (by omega)).1, (q (4 * 0 + p) (by omega)).2]; exact cm p hp
theorem pair_ends (ok : pOk n h k) (c : pC n h k hd kn) (cm : pM n h k had holds 0) : ∀ F, UBF ≤ F → ∀ (mo le nu lo sh ru ca : Int32) (tried : Nat → Int32), ∃ r1 r2 r3 r4 had' holds' tried', fX4_walkAll F mo le nu (Int32.ofNat n) hd kn = some (r1, r2, r3, hd, kn) ∧ fX11_goRuns F (Int32.ofNat n) lo sh ru ca had holds tried (-9) = some (r1, r2, r3, r4, had', holds', tried') ∧ pM n h k had' holds' 0 := by
  have hn := ok.1
  have hr := rem24 hn k
  intro F hU mo le nu lo sh ru ca tried
  have hF : 60 + stp n 13 h k ≤ F := Nat.le_trans (ub_stp n h k) hU
  obtain ⟨had', holds', tried', e, q⟩ := mM_goRuns ok cm (who := -9) (Or.inl rfl) F hF lo sh ru ca tried
  have w := aC_walk (F := F) (by omega) 20 h k hd kn 0 (0, 12, 0) ok c (by omega) (by omega)
  have s := dfs_CM (who := -9) 20 h k 0 (0, 12, 0) (0, 99999, 0, whoBit (-9) h) ok (by omega) (by omega) ⟨rfl, rfl, Or.inr ⟨rfl, rfl⟩⟩
  rw [dfs_fuel (leaf := leafM) 20 13 h k 0 _ ok (by omega) (by omega)] at s
  obtain ⟨s1, s2, s3⟩ := s
  rw [s1, s2, s3] at w
  exact ⟨_, _, _, _, had', holds', tried', by unfold fX4_walkAll; rw [show fX4_walk F 20 0 12 0 (Int32.ofNat n) hd kn 0 = _ from w]; rfl, e, keep4 hn cm q⟩
theorem pair_longest (ok : pOk n h k) (c : pC n h k hd kn) (cm : pM n h k had holds 0) : ∀ F, UBF ≤ F → ∀ (mo le nu th lo sh ru ca : Int32) (tried : Nat → Int32), ∃ r mo' le' nu' lo' sh' ru' ca' had' holds' tried', fX10_longest F mo le nu (Int32.ofNat n) hd kn = some (r, mo', le', nu', hd, kn) ∧ fX11_longest F th (Int32.ofNat n) lo sh ru ca had holds tried = some (r, 0, lo', sh', ru', ca', had', holds', tried') ∧ pM n h k had' holds' 0 := by
  have H := pair_ends ok c cm
  intro F hF mo le nu th lo sh ru ca tried
  obtain ⟨r1, r2, r3, r4, had', holds', tried', e1, e2, e3⟩ := H F hF mo le nu lo sh ru ca tried
  exact ⟨r1, r1, r2, r3, r1, r2, r3, r4, had', holds', tried', by unfold fX10_longest; rw [e1]; rfl, by unfold fX11_longest; rw [e2]; rfl, e3⟩
theorem pair_shortest (ok : pOk n h k) (c : pC n h k hd kn) (cm : pM n h k had holds 0) : ∀ F, UBF ≤ F → ∀ (mo le nu th lo sh ru ca : Int32) (tried : Nat → Int32), ∃ r mo' le' nu' lo' sh' ru' ca' had' holds' tried', fX10_shortest F mo le nu (Int32.ofNat n) hd kn = some (r, mo', le', nu', hd, kn) ∧ fX11_shortest F th (Int32.ofNat n) lo sh ru ca had holds tried = some (r, 0, lo', sh', ru', ca', had', holds', tried') ∧ pM n h k had' holds' 0 := by
  have H := pair_ends ok c cm
  intro F hF mo le nu th lo sh ru ca tried
  obtain ⟨r1, r2, r3, r4, had', holds', tried', e1, e2, e3⟩ := H F hF mo le nu lo sh ru ca tried
  exact ⟨r2, r1, r2, r3, r1, r2, r3, r4, had', holds', tried', by unfold fX10_shortest; rw [e1]; rfl, by unfold fX11_shortest; rw [e2]; rfl, e3⟩
theorem pair_runs (ok : pOk n h k) (c : pC n h k hd kn) (cm : pM n h k had holds 0) : ∀ F, UBF ≤ F → ∀ (mo le nu th lo sh ru ca : Int32) (tried : Nat → Int32), ∃ r mo' le' nu' lo' sh' ru' ca' had' holds' tried', fX10_runs F mo le nu (Int32.ofNat n) hd kn = some (r, mo', le', nu', hd, kn) ∧ fX11_runs F th (Int32.ofNat n) lo sh ru ca had holds tried = some (r, 0, lo', sh', ru', ca', had', holds', tried') ∧ pM n h k had' holds' 0 := by
  have H := pair_ends ok c cm
  intro F hF mo le nu th lo sh ru ca tried
  obtain ⟨r1, r2, r3, r4, had', holds', tried', e1, e2, e3⟩ := H F hF mo le nu lo sh ru ca tried
  exact ⟨r3, r1, r2, r3, r1, r2, r3, r4, had', holds', tried', by unfold fX10_runs; rw [e1]; rfl, by unfold fX11_runs; rw [e2]; rfl, e3⟩
theorem pair_mayComeTo (ok : pOk n h k) (c : pC n h k hd kn) (cm : pM n h k had holds 0) (a : Int32) : ∀ F, UBF ≤ F → ∀ (th lo sh ru ca : Int32) (tried : Nat → Int32), ∃ r lo' sh' ru' ca' had' holds' tried', fX10_mayComeTo F (Int32.ofNat n) hd kn a = some (r, hd, kn) ∧ fX11_mayComeTo F th (Int32.ofNat n) lo sh ru ca had holds tried a = some (r, 0, lo', sh', ru', ca', had', holds', tried') ∧ pM n h k had' holds' 0 := by
  have hn := ok.1
  unfold fX10_mayComeTo fX11_mayComeTo
  rcases mM_noOne_or hn a with ⟨e1, e2⟩ | ⟨p, hp, rfl, e1, e2⟩
  · exact fun F hF th lo sh ru ca tried => ⟨-1, lo, sh, ru, ca, had, holds, tried, by rw [e2, if_pos rfl], by rw [e1, if_neg (by decide)], cm⟩
  · intro F hU th lo sh ru ca tried
    have hF : 60 + stp n 13 h k ≤ F := Nat.le_trans (ub_stp n h k) hU
    obtain ⟨had', holds', tried', e, q⟩ := mM_goRuns ok cm (who := Int32.ofNat p) (Or.inr ⟨p, hp, rfl⟩) F hF lo sh ru ca tried
    rw [mM_came ok hp] at e
    refine ⟨Int32.ofNat (reachN p n h k), _, _, _, _, had', holds', tried', ?_, by rw [e1, if_pos rfl, e]; rfl, keep4 hn cm q⟩
    rw [e2, if_neg (by decide), aC_sorts ok c hp (by omega)]; rfl
end ENDS
