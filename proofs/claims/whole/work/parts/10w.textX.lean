/-! the text, from its first byte to its last -/
section TEXTX
variable {len : Nat} {bt : Nat → Nat} {tc tm : Nat → Int32}
theorem txA_of (o : tOk len bt tc tm) {F i : Nat} (hF : 100 ≤ F) (hi : i ≤ len) (HB : ∀ i', i < i' → i' ≤ len → txB len tc tm F i') : txA len bt tc tm F i := by
  intro c h k w hd kn wo rh ro rw M N ok pc hw cm hm hout hN hM
  have h64 := o.1
  have hn := ok.1
  obtain ⟨N, rfl⟩ : ∃ M, N = M + 1 := ⟨N - 1, by omega⟩
  obtain ⟨M, rfl⟩ : ∃ K, M = K + 1 := ⟨M - 1, by omega⟩
  by_cases he : i = len
  · rw [he, CL_end, RL_end, if_pos rfl]
    exact ⟨_, _, _, _, _, _, _, _, _, _, rfl, rfl, fun _ => ⟨c, h, k, w, rfl, rfl, ok, pc, hw, cm, hm⟩⟩
  · have hil : i < len := by omega
    have hb := (o.2 i hil).1
    rw [CL_step o hil, RL_step o hil hn]
    by_cases h80 : bt i = 80
    · by_cases h4 : c = 4
      · rw [if_neg (by omega)]
        have e : fX7_take (Int32.ofNat c) hd kn wo 8 (Int32.ofNat (bt i)) = some (-9, Int32.ofNat c, hd, kn, wo) := by
          rw [h80, h4]; rfl
        rw [e]
        simp only [nh_b5]
        rw [if_pos trivial]
        exact txR_bad (show i ≤ 64 by omega) rfl rfl
      · rw [if_pos ⟨h80, h4⟩]
        have e : fX7_take (Int32.ofNat c) hd kn wo 8 (Int32.ofNat (bt i)) = some (1, Int32.ofNat (c + 1), upd hd c (-9), upd kn c 0, wo) := by
          rw [h80]
          unfold fX7_take
          rw [if_pos rfl, if_pos (by decide)]
          unfold fX1_addPerson
          rw [if_pos (show Int32.ofNat c < 4 from (z_lt (a := c) (b := 4) (by omega) (by omega)).mpr (by omega))]
          simp only [z_chk (show c < 4 by omega) (show 4 < 2147483648 by omega), z_ix (show c < 2147483648 by omega), nh_let, z_succ, nh_b4]
          rfl
        rw [e]
        simp only [nh_b5]
        rw [if_neg (by decide)]
        unfold fX11_readPerson
        by_cases he1 : i + 1 = len
        · obtain ⟨N, rfl⟩ : ∃ M, N = M + 1 := ⟨N - 1, by omega⟩
          have es : fX11_sign (Int32.ofNat len) (Int32.ofNat (i + 1)) tm = some (-9) := by rw [he1]; exact mM_sign_end
          rw [es, he1, CL_end, if_neg (by decide)]
          simp only [nh_b1]
          rw [if_pos trivial]
          simp only [nh_b6]
          unfold rdK
          rw [if_pos (by decide)]
          exact txR_bad h64 rfl rfl
        · have hi1 : i + 1 < len := by omega
          have hb1 := (o.2 (i + 1) hi1).1
          obtain ⟨N, rfl⟩ : ∃ M, N = M + 1 := ⟨N - 1, by omega⟩
          rw [mM_sign o hi1, CL_step o hi1, aC_take1 (show c < 4 by omega) hb1]
          simp only [nh_b1]
          by_cases h45 : bt (i + 1) = 45
          · have hns : ¬ isS (bt (i + 1)) = true := by rw [h45]; decide
            rw [if_pos h45, sgI_not hns, if_pos h45, if_neg (by decide)]
            simp only [nh_b5, nh_let, z_succ]
            rw [if_neg (by decide)]
            refine txW o hF (i0 := i + 1 + 1) (fun i' h1 h2 => HB i' (by omega) h2) (c := c) (h := fun p => if p = c then 6 else h p) (k := fun p => if p = c then 0 else k p) (hd := upd hd c (-9)) (kn := upd kn c 0) ⟨by omega, fun p hp => ?_⟩ (fun p hp => ?_) (fun p hp => ?_) _ (fun x pl rw' => ?_) 6 0 (i + 1 + 1) w wo rw M N F rfl (Nat.le_refl _) (by omega) hw hm (fun t ht => absurd ht (Nat.not_lt_zero t)) (by omega) (by omega) (by omega)
            · try dsimp only
              by_cases e : p = c
              · rw [if_pos e, if_pos e]; exact ⟨by omega, by omega, fun z => absurd z (by omega)⟩
              · rw [if_neg e, if_neg e]; exact ok.2 p (by omega)
            · try dsimp only
              by_cases e : p = c
              · subst e; rw [upd_same, upd_same, if_pos rfl, if_pos rfl]; exact ⟨rfl, rfl⟩
              · rw [upd_ne e, upd_ne e, if_neg e, if_neg e]; exact pc p (by omega)
            · try dsimp only
              rw [if_neg (show ¬ p = c by omega), if_neg (show ¬ p = c by omega)]; exact cm p hp
            · try dsimp only
              rw [if_pos trivial, if_pos rfl, if_pos rfl]
              rfl
          · rw [if_neg h45]
            by_cases hs : isS (bt (i + 1)) = true
            · obtain ⟨s1, s2, s3⟩ := sgI_sort hs
              have g := isS_ge hs
              rw [if_pos hs, if_neg s2]
              simp only [nh_b5, nh_let, z_succ]
              rw [if_neg (by decide)]
              refine txW o hF (i0 := i + 1 + 1) (fun i' h1 h2 => HB i' (by omega) h2) (c := c) (h := fun p => if p = c then bt (i + 1) - 97 else h p) (k := fun p => if p = c then 2 ^ (bt (i + 1) - 97) else k p) (hd := upd (upd hd c (-9)) c (Int32.ofNat (bt (i + 1) - 97))) (kn := upd (upd kn c 0) c (Int32.ofNat (2 ^ (bt (i + 1) - 97)))) ⟨by omega, fun p hp => ?_⟩ (fun p hp => ?_) (fun p hp => ?_) _ (fun x pl rw' => ?_) 6 0 (i + 1 + 1) w wo rw M N F rfl (Nat.le_refl _) (by omega) hw hm (fun t ht => absurd ht (Nat.not_lt_zero t)) (by omega) (by omega) (by omega)
              · try dsimp only
                by_cases e : p = c
                · rw [if_pos e, if_pos e]; exact ⟨by omega, pow_lt64 _ (by omega), fun _ => by rw [Nat.testBit_two_pow]; exact decide_eq_true rfl⟩
                · rw [if_neg e, if_neg e]; exact ok.2 p (by omega)
              · try dsimp only
                by_cases e : p = c
                · subst e; rw [upd_same, upd_same, if_pos rfl, if_pos rfl, cH_lt (by omega)]; exact ⟨rfl, rfl⟩
                · rw [upd_ne e, upd_ne e, upd_ne e, upd_ne e, if_neg e, if_neg e]; exact pc p (by omega)
              · try dsimp only
                rw [if_neg (show ¬ p = c by omega), if_neg (show ¬ p = c by omega)]; exact cm p hp
              · try dsimp only
                rw [if_neg s3, if_pos rfl, if_pos rfl, s1, z_bit _ (show bt (i + 1) - 97 < 6 by omega)]
                rfl
            · rw [if_neg hs, sgI_not hs, if_neg h45, if_pos rfl]
              simp only [nh_b5, nh_b6]
              unfold rdK
              rw [if_pos trivial, if_pos (by decide)]
              exact txR_bad (show i + 1 ≤ 64 by omega) rfl rfl
    · rw [if_neg (by omega)]
      have e : ∃ kn' : Nat → Int32, fX7_take (Int32.ofNat c) hd kn wo 8 (Int32.ofNat (bt i)) = some (-9, Int32.ofNat c, hd, kn', wo) := by
        cases c with
        | zero =>
          refine ⟨kn, ?_⟩
          unfold fX7_take
          rw [if_pos rfl, if_neg (show ¬ Int32.ofNat (bt i) = 80 from fun z => h80 ((z_eq (a := bt i) (b := 80) (by omega) (by omega)).mp z))]
          rfl
        | succ c =>
          have hns : ¬ isS (bt i) = true := by
            rcases hout with z | z | z
            · cases z
            · exact absurd z he
            · exact z
          refine ⟨kn, ?_⟩
          rw [aC_take8 (show c < 4 by omega) hb h80, aC_takeKnown ok pc hb, if_neg (by
            intro z
            rw [Bool.and_eq_true] at z
            exact hns z.1)]
          rfl
      obtain ⟨kn', e⟩ := e
      rw [e]
      simp only [nh_b5]
      rw [if_pos trivial]
      exact txR_bad (show i ≤ 64 by omega) rfl rfl
theorem tx_all (o : tOk len bt tc tm) {F : Nat} (hF : 100 ≤ F) : ∀ (r i : Nat), i + r = len → txA len bt tc tm F i ∧ ∀ i', i ≤ i' → i' ≤ len → txB len tc tm F i' := by
  intro r
  induction r with
  | zero =>
    intro i hi
    have A := txA_of o hF (show i ≤ len by omega) (fun i' h1 h2 => absurd h1 (by omega))
    refine ⟨A, fun i' h1 h2 => ?_⟩
    have e : i' = i := by omega
    subst e
    exact txB_of o h2 A (fun z => absurd z (by omega))
  | succ r ih =>
    intro i hi
    obtain ⟨-, HB⟩ := ih (i + 1) (by omega)
    have A := txA_of o hF (show i ≤ len by omega) (fun i' h1 h2 => HB i' (by omega) h2)
    refine ⟨A, fun i' h1 h2 => ?_⟩
    by_cases e : i' = i
    · subst e
      exact txB_of o h2 A (fun _ => HB (i' + 1) (by omega) (by omega))
    · exact HB i' (by omega) h2
theorem tx_read (o : tOk len bt tc tm) {F : Nat} (hF : 100 ≤ F) (dc pl rp : Int32) (dh dk dw rh ro rw : Nat → Int32) : txR (fX7_readInto F (Int32.ofNat len) tc dc dh dk dw) (fX11_readFair F (Int32.ofNat len) pl rp rh ro rw tm) := by
  have h64 := o.1
  exact (tx_all o hF len 0 (by omega)).1 0 (fun _ => 0) (fun _ => 0) (fun _ => 0) dh dk dw rh ro rw F F ⟨by omega, fun p hp => absurd hp (by omega)⟩ (fun p hp => absurd hp (by omega)) (fun p s hp => absurd hp (by omega)) (fun p hp => absurd hp (by omega)) (fun p s hp => absurd hp (by omega)) (Or.inl rfl) (by omega) (by omega)
theorem pair_fault (o : tOk len bt tc tm) {F : Nat} (hF : 100 ≤ F) (dc pl rp th : Int32) (dh dk dw rh ro rw : Nat → Int32) : ∃ r dc' dh' dk' dw' pl' rp' rh' ro' rw', fX10_fault F dc dh dk dw (Int32.ofNat len) tc = some (r, dc', dh', dk', dw') ∧ fX11_fault F th (Int32.ofNat len) pl rp rh ro rw tm = some (r, 0, pl', rp', rh', ro', rw') := by
  obtain ⟨r, c', hd', kn', wo', pl', rp', rh', ro', rw', e1, e2, -⟩ := tx_read o hF dc pl rp dh dk dw rh ro rw
  exact ⟨r, c', hd', kn', wo', pl', rp', rh', ro', rw', by unfold fX10_fault; rw [e1]; rfl, by unfold fX11_fault; rw [e2]; rfl⟩
end TEXTX
