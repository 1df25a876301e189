/-! the text: both sides read it alike -/
def tOk (len : Nat) (bt : Nat → Nat) (tc tm : Nat → Int32) : Prop := len ≤ 64 ∧ ∀ i, i < len → bt i < 256 ∧ tc i = Int32.ofNat (bt i) ∧ tm i = Int32.ofNat (bt i)
def isS (b : Nat) : Bool := decide (97 ≤ b) && decide (b ≤ 102)
theorem isS_ge {b : Nat} (h : isS b = true) : 97 ≤ b ∧ b ≤ 102 := by
  unfold isS at h
  simp only [Bool.and_eq_true, decide_eq_true_eq] at h
  exact h
def sgI (b : Nat) : Int32 := if isS b = true then Int32.ofNat (b - 97) else if b = 45 then 6 else -9
theorem z_sign : ∀ b : Nat, b < 256 → (if fX11_in (Int32.toInt64 (Int32.ofNat b)) 97 102 = 0 then (if Int32.ofNat b = 45 then some (6 : Int32) else some (-9)) else some (Int32.ofNat b - 97)) = some (sgI b) := by decide +kernel
theorem z_isS : ∀ b : Nat, b < 256 → fX10_isSort (Int32.ofNat b - 97) = b01 (isS b) := by decide +kernel
theorem z_dig : ∀ b : Nat, b < 256 → fX11_in (Int32.toInt64 (Int32.ofNat b)) 48 57 = b01 (decide (48 ≤ b ∧ b ≤ 57)) := by decide +kernel
theorem z_b97 {b : Nat} (h : isS b = true) : Int32.ofNat b - 97 = cH (b - 97) := by
  have := isS_ge h
  rw [cH_lt (by omega), show (97 : Int32) = Int32.ofNat 97 from rfl, z_sub (by omega)]
def CLx (len : Nat) (tc : Nat → Int32) (N : Nat) (at_ i c : Int32) (hd kn wo : Nat → Int32) : Option (Int32 × Int32 × (Nat → Int32) × (Nat → Int32) × (Nat → Int32)) := fX7_readInto_L10 (Int32.ofNat len) tc (fun x2_7 x3_8 a1_count_9 a1_held_10 a1_known_11 a1_worths_12 => (if x2_7 = 8 then some ((-9), a1_count_9, a1_held_10, a1_known_11, a1_worths_12)
 else some (Int32.ofNat len, a1_count_9, a1_held_10, a1_known_11, a1_worths_12))) N at_ i c hd kn wo
def RLx (len : Nat) (tm : Nat → Int32) (F N : Nat) (pl rp : Int32) (rh ro rw : Nat → Int32) : Option (Int32 × Int32 × Int32 × (Nat → Int32) × (Nat → Int32) × (Nat → Int32)) := fX11_readFair_L10 (Int32.ofNat len) tm F (fun t_place_6 t_readPeople_7 t_readHad_8 t_readHolds_9 t_readWorth_10 => some (t_place_6, t_place_6, t_readPeople_7, t_readHad_8, t_readHolds_9, t_readWorth_10)) N pl rp rh ro rw
def rdK (len : Nat) (tm : Nat → Int32) (F M : Nat) : Int32 → Int32 → Int32 → (Nat → Int32) → (Nat → Int32) → (Nat → Int32) → Option (Int32 × Int32 × Int32 × (Nat → Int32) × (Nat → Int32) × (Nat → Int32)) := fun r pl rp rh ro rw => if r = 0 then some (pl, pl, rp, rh, ro, rw) else RLx len tm F M pl rp rh ro rw
def kBp (rp : Int32) (rh ro rw : Nat → Int32) (x1 : Int32) : Int32 → Int32 → Option (Int32 × Int32 × Int32 × (Nat → Int32) × (Nat → Int32) × (Nat → Int32)) := fun x2_11 t_place_12 => nh_chk (nh_in rp 4) (nh_let (α := Nat → Int32) (upd ro (Int32.toNatClampNeg rp) x1) (fun t_readHolds_27 => nh_chk (nh_in rp 4) (nh_let (α := Nat → Int32) (upd rh (Int32.toNatClampNeg rp) x2_11) (fun t_readHad_29 => nh_let (α := Int32) ((rp + 1)) (fun y_30 => some (1, t_place_12, y_30, t_readHad_29, t_readHolds_27, rw))))))
def txR (o1 : Option (Int32 × Int32 × (Nat → Int32) × (Nat → Int32) × (Nat → Int32))) (o2 : Option (Int32 × Int32 × Int32 × (Nat → Int32) × (Nat → Int32) × (Nat → Int32))) : Prop := ∃ r c' hd' kn' wo' pl' rp' rh' ro' rw', o1 = some (r, c', hd', kn', wo') ∧ o2 = some (r, pl', rp', rh', ro', rw') ∧ (r = -9 → ∃ n h k w, c' = Int32.ofNat n ∧ rp' = Int32.ofNat n ∧ pOk n h k ∧ pC n h k hd' kn' ∧ wOk n w wo' ∧ pM n h k rh' ro' 0 ∧ wOk n w rw')
theorem txR_bad {i : Nat} (hi : i ≤ 64) {o1 : Option (Int32 × Int32 × (Nat → Int32) × (Nat → Int32) × (Nat → Int32))} {o2 : Option (Int32 × Int32 × Int32 × (Nat → Int32) × (Nat → Int32) × (Nat → Int32))} {c' pl' rp' : Int32} {hd' kn' wo' rh' ro' rw' : Nat → Int32} (e1 : o1 = some (Int32.ofNat i, c', hd', kn', wo')) (e2 : o2 = some (Int32.ofNat i, pl', rp', rh', ro', rw')) : txR o1 o2 :=
  ⟨_, _, _, _, _, _, _, _, _, _, e1, e2, fun z => absurd z (z_ne9 (by omega))⟩
section TEXT
variable {len : Nat} {bt : Nat → Nat} {tc tm : Nat → Int32}
theorem CL_end {N : Nat} {at_ c : Int32} {hd kn wo : Nat → Int32} : CLx len tc (N + 1) at_ (Int32.ofNat len) c hd kn wo = if at_ = 8 then some (-9, c, hd, kn, wo) else some (Int32.ofNat len, c, hd, kn, wo) := by
  unfold CLx
  show fX7_readInto_B10 _ _ _ _ _ _ _ _ _ _ = _
  unfold fX7_readInto_B10
  rw [if_pos (Int32.le_refl _)]
theorem CL_step (o : tOk len bt tc tm) {i N : Nat} (hi : i < len) {at_ c : Int32} {hd kn wo : Nat → Int32} : CLx len tc (N + 1) at_ (Int32.ofNat i) c hd kn wo = nh_b5 (fX7_take c hd kn wo at_ (Int32.ofNat (bt i))) (fun r c' hd' kn' wo' => if r = -9 then some (Int32.ofNat i, c', hd', kn', wo') else CLx len tc N r (Int32.ofNat (i + 1)) c' hd' kn' wo') := by
  have h64 := o.1
  unfold CLx
  show fX7_readInto_B10 _ _ _ _ _ _ _ _ _ _ = _
  unfold fX7_readInto_B10
  rw [if_neg (fun q => absurd ((z_le (by omega) (by omega)).mp q) (by omega)), z_chk (show i < 64 by omega) (by omega), z_ix (by omega), (o.2 i hi).2.1]
  simp only [nh_let, z_succ]
theorem mM_sign (o : tOk len bt tc tm) {i : Nat} (hi : i < len) : fX11_sign (Int32.ofNat len) (Int32.ofNat i) tm = some (sgI (bt i)) := by
  have h64 := o.1
  unfold fX11_sign
  rw [if_neg (fun q => absurd ((z_eq (by omega) (by omega)).mp q) (by omega)), z_chk (show i < 64 by omega) (by omega), z_ix (by omega), (o.2 i hi).2.2]
  exact z_sign _ (o.2 i hi).1
theorem mM_sign_end : fX11_sign (Int32.ofNat len) (Int32.ofNat len) tm = some (-9) := by
  unfold fX11_sign
  rw [if_pos rfl]
theorem sgI_sort {b : Nat} (h : isS b = true) : sgI b = Int32.ofNat (b - 97) ∧ ¬ sgI b = -9 ∧ ¬ sgI b = 6 := by
  have g := isS_ge h
  have e : sgI b = Int32.ofNat (b - 97) := if_pos h
  rw [e]
  refine ⟨rfl, z_ne9 (by omega), fun z => ?_⟩
  have := (z_eq (a := b - 97) (b := 6) (by omega) (by omega)).mp z
  omega
theorem sgI_not {b : Nat} (h : ¬ isS b = true) : sgI b = if b = 45 then 6 else -9 := if_neg h
theorem aC_takeKnown {c b : Nat} {h k : Nat → Nat} {hd kn : Nat → Int32} (ok : pOk (c + 1) h k) (pc : pC (c + 1) h k hd kn) (hb : b < 256) : fX7_takeKnown (Int32.ofNat (c + 1)) kn (Int32.ofNat c) (Int32.ofNat b) = if (isS b && !(k c).testBit (b - 97)) = true then some (8, upd kn c (Int32.ofNat (k c ||| 2 ^ (b - 97)))) else some (-9, kn) := by
  have hn := ok.1
  unfold fX7_takeKnown
  cases hs : isS b with
  | false =>
    have : fX1_isNew (Int32.ofNat (c + 1)) kn (Int32.ofNat c) (Int32.ofNat b - 97) = some 0 := by
      unfold fX1_isNew
      rw [aC_has1 hn (by omega), if_neg (by decide), z_isS b hb, hs, if_pos (by decide)]
    rw [this]
    rfl
  | true =>
    have g := isS_ge hs
    rw [z_b97 hs, aC_isNew ok pc (show c < c + 1 by omega) (show b - 97 ≤ 6 by omega), decide_eq_true (show b - 97 < 6 by omega)]
    simp only [nh_b1]
    cases ht : (k c).testBit (b - 97) with
    | true => rfl
    | false =>
      rw [if_neg (show ¬ b01 (true && !false) = 0 by decide), if_pos (show (true && !false) = true from rfl), z_chk (show c < 4 by omega) (by omega), z_chk (show c < 4 by omega) (by omega), z_ix (by omega), aC_bit _ (by omega), if_neg (by omega), (pc c (by omega)).2, z_oro _ (ok.2 c (by omega)).2.1 _ (pow_lt64 _ (by omega))]
      rfl
theorem aC_take8 {c b : Nat} (hc : c < 4) (hb : b < 256) (h80 : b ≠ 80) {hd kn wo : Nat → Int32} : fX7_take (Int32.ofNat (c + 1)) hd kn wo 8 (Int32.ofNat b) = nh_b2 (fX7_takeKnown (Int32.ofNat (c + 1)) kn (Int32.ofNat c) (Int32.ofNat b)) (fun r kn' => some (r, Int32.ofNat (c + 1), hd, kn', wo)) := by
  unfold fX7_take
  rw [if_pos rfl, if_neg (show ¬ Int32.ofNat b = 80 from fun z => h80 ((z_eq (a := b) (b := 80) (by omega) (by omega)).mp z))]
  unfold fX7_take_J26
  simp only [nh_let]
  rw [show (1 : Int32) = Int32.ofNat 1 from rfl, z_sub (show 1 ≤ c + 1 by omega), Nat.add_sub_cancel, if_pos (show (0 : Int32) ≤ Int32.ofNat c from Int32.not_lt.mp (z_nn (by omega))), if_neg (by decide), if_pos (by decide)]
theorem aC_take2 {c b s : Nat} (hc : c < 4) (hb : b < 256) (hs : s < 6) {hd kn wo : Nat → Int32} : fX7_take (Int32.ofNat (c + 1)) hd kn wo (Int32.ofNat (2 + s)) (Int32.ofNat b) = if 48 ≤ b ∧ b ≤ 57 then some (Int32.ofNat (2 + (s + 1)), Int32.ofNat (c + 1), hd, kn, upd wo (6 * c + s) (Int32.ofNat (b - 48))) else some (-9, Int32.ofNat (c + 1), hd, kn, wo) := by
  unfold fX7_take
  rw [if_neg (show ¬ Int32.ofNat (2 + s) = 8 from fun z => absurd ((z_eq (a := 2 + s) (b := 8) (by omega) (by omega)).mp z) (by omega))]
  unfold fX7_take_J26
  simp only [nh_let]
  rw [show Int32.ofNat (c + 1) - 1 = Int32.ofNat c from by rw [show (1 : Int32) = Int32.ofNat 1 from rfl, z_sub (show 1 ≤ c + 1 by omega), Nat.add_sub_cancel], if_pos (show (0 : Int32) ≤ Int32.ofNat c from Int32.not_lt.mp (z_nn (by omega))), if_neg (show ¬ Int32.ofNat (2 + s) = 1 from fun z => absurd ((z_eq (a := 2 + s) (b := 1) (by omega) (by omega)).mp z) (by omega)), if_neg (show ¬ (8 : Int32) ≤ Int32.ofNat (2 + s) from fun z => absurd ((z_le (a := 8) (b := 2 + s) (by omega) (by omega)).mp z) (by omega))]
  unfold fX7_takeWorth
  by_cases h1 : b < 48
  · rw [if_pos (show Int32.ofNat b < 48 from (z_lt (a := b) (b := 48) (by omega) (by omega)).mpr h1), if_neg (by omega)]; rfl
  · rw [if_neg (show ¬ Int32.ofNat b < 48 from fun z => h1 ((z_lt (a := b) (b := 48) (by omega) (by omega)).mp z))]
    by_cases h2 : b ≤ 57
    · rw [if_pos (show Int32.ofNat b ≤ 57 from (z_le (a := b) (b := 57) (by omega) (by omega)).mpr h2), if_pos (by omega)]
      unfold fX1_setWorth
      rw [aC_has1 (show c + 1 ≤ 4 by omega) (show c < c + 1 by omega), if_neg (by decide), show Int32.ofNat (2 + s) - 2 = Int32.ofNat s from by rw [show (2 : Int32) = Int32.ofNat 2 from rfl, z_sub (by omega), Nat.add_sub_cancel_left], aC_isSort (by omega), decide_eq_true hs, if_neg (by decide), show Int32.ofNat b - 48 = Int32.ofNat (b - 48) from by rw [show (48 : Int32) = Int32.ofNat 48 from rfl, z_sub (by omega)]]
      simp only [show (6 : Int32) = Int32.ofNat 6 from rfl, z_mul, z_add, show c * 6 + s = 6 * c + s by omega, z_chk (show 6 * c + s < 24 by omega) (show 24 < 2147483648 by omega), z_ix (show 6 * c + s < 2147483648 by omega), nh_let, nh_b1, nh_b2, z_succ]
      rfl
    · rw [if_neg (show ¬ Int32.ofNat b ≤ 57 from fun z => h2 ((z_le (a := b) (b := 57) (by omega) (by omega)).mp z)), if_neg (by omega)]; rfl
theorem aC_take1 {c b : Nat} (hc : c < 4) (hb : b < 256) {hd kn wo : Nat → Int32} : fX7_take (Int32.ofNat (c + 1)) hd kn wo 1 (Int32.ofNat b) = if b = 45 then some (2, Int32.ofNat (c + 1), hd, kn, wo) else if isS b = true then some (2, Int32.ofNat (c + 1), upd hd c (Int32.ofNat (b - 97)), upd kn c (Int32.ofNat (2 ^ (b - 97))), wo) else some (-9, Int32.ofNat (c + 1), hd, kn, wo) := by
  unfold fX7_take
  rw [if_neg (by decide)]
  unfold fX7_take_J26
  simp only [nh_let]
  rw [show Int32.ofNat (c + 1) - 1 = Int32.ofNat c from by rw [show (1 : Int32) = Int32.ofNat 1 from rfl, z_sub (show 1 ≤ c + 1 by omega), Nat.add_sub_cancel], if_pos (show (0 : Int32) ≤ Int32.ofNat c from Int32.not_lt.mp (z_nn (by omega))), if_pos trivial]
  unfold fX7_takeThing
  by_cases h45 : b = 45
  · rw [if_pos (by rw [h45]; rfl), if_pos h45]; rfl
  · rw [if_neg (show ¬ Int32.ofNat b = 45 from fun z => h45 ((z_eq (a := b) (b := 45) (by omega) (by omega)).mp z)), if_neg h45, z_isS b hb]
    cases hs : isS b with
    | false => rfl
    | true =>
      have g := isS_ge hs
      rw [if_neg (by decide), if_pos rfl, z_b97 hs, aC_bit _ (by omega), if_neg (by omega), cH_lt (by omega)]
      simp only [z_chk hc (show 4 < 2147483648 by omega), z_ix (show c < 2147483648 by omega), nh_let]
      rfl
theorem RL_end {F N : Nat} {rp : Int32} {rh ro rw : Nat → Int32} : RLx len tm F (N + 1) (Int32.ofNat len) rp rh ro rw = some (-9, Int32.ofNat len, rp, rh, ro, rw) := by
  unfold RLx
  show fX11_readFair_B10 _ _ _ _ _ _ _ _ _ _ = _
  unfold fX11_readFair_B10
  rw [if_pos (Int32.le_refl _)]
theorem RL_step (o : tOk len bt tc tm) {i F N c : Nat} (hi : i < len) (hc : c ≤ 4) {rh ro rw : Nat → Int32} : RLx len tm F (N + 1) (Int32.ofNat i) (Int32.ofNat c) rh ro rw = if bt i = 80 ∧ c ≠ 4 then nh_b6 (fX11_readPerson F (Int32.ofNat len) (Int32.ofNat (i + 1)) (Int32.ofNat c) rh ro rw tm) (rdK len tm F N) else some (Int32.ofNat i, Int32.ofNat i, Int32.ofNat c, rh, ro, rw) := by
  have h64 := o.1
  have hb := (o.2 i hi).1
  unfold RLx
  show fX11_readFair_B10 _ _ _ _ _ _ _ _ _ _ = _
  unfold fX11_readFair_B10
  rw [if_neg (fun q => absurd ((z_le (by omega) (by omega)).mp q) (by omega)), z_chk (show i < 64 by omega) (by omega), z_ix (by omega), (o.2 i hi).2.2]
  by_cases h80 : bt i = 80
  · rw [if_pos (show Int32.ofNat (bt i) = 80 by rw [h80]; rfl)]
    by_cases h4 : c = 4
    · rw [if_pos (show Int32.ofNat c = 4 by rw [h4]; rfl), if_neg (by omega)]
    · rw [if_neg (show ¬ Int32.ofNat c = 4 from fun z => h4 ((z_eq (a := c) (b := 4) (by omega) (by omega)).mp z)), if_pos ⟨h80, h4⟩]
      simp only [nh_let, z_succ]
      rfl
  · rw [if_neg (show ¬ Int32.ofNat (bt i) = 80 from fun z => h80 ((z_eq (a := bt i) (b := 80) (by omega) (by omega)).mp z)), if_neg (by omega)]
/-- between two people -/
def txA (len : Nat) (bt : Nat → Nat) (tc tm : Nat → Int32) (F i : Nat) : Prop := ∀ (c : Nat) (h k w : Nat → Nat) (hd kn wo rh ro rw : Nat → Int32) (M N : Nat), pOk c h k → pC c h k hd kn → wOk c w wo → pM c h k rh ro 0 → wOk c w rw → (c = 0 ∨ i = len ∨ ¬ isS (bt i) = true) → len - i < N → len - i < M → txR (CLx len tc N 8 (Int32.ofNat i) (Int32.ofNat c) hd kn wo) (RLx len tm F M (Int32.ofNat i) (Int32.ofNat c) rh ro rw)
/-- in a list -/
def txB (len : Nat) (tc tm : Nat → Int32) (F i : Nat) : Prop := ∀ (c : Nat) (h k w : Nat → Nat) (hd kn wo rh ro rw : Nat → Int32) (M N N2 : Nat), pOk (c + 1) h k → pC (c + 1) h k hd kn → wOk (c + 1) w wo → pM c h k rh ro 0 → wOk (c + 1) w rw → len - i < N → len - i < M → len - i < N2 → txR (CLx len tc N 8 (Int32.ofNat i) (Int32.ofNat (c + 1)) hd kn wo) (nh_b6 (fX11_readPerson_L122 (Int32.ofNat len) tm (Int32.ofNat c) rh ro rw (kBp (Int32.ofNat c) rh ro rw (Int32.ofNat (h c))) N2 (Int32.ofNat (k c)) (Int32.ofNat i)) (rdK len tm F M))
theorem txB_of (o : tOk len bt tc tm) {F i : Nat} (hi : i ≤ len) (HA : txA len bt tc tm F i) (HB : i < len → txB len tc tm F (i + 1)) : txB len tc tm F i := by
  intro c h k w hd kn wo rh ro rw M N N2 ok pc hw cm hm hN hM hN2
  have h64 := o.1
  have hn := ok.1
  obtain ⟨N2, rfl⟩ : ∃ M, N2 = M + 1 := ⟨N2 - 1, by omega⟩
  have vc := ok.2 c (by omega)
  -- the list is at its end
  have out : (i = len ∨ ¬ isS (bt i) = true) → txR (CLx len tc N 8 (Int32.ofNat i) (Int32.ofNat (c + 1)) hd kn wo) (nh_b6 (kBp (Int32.ofNat c) rh ro rw (Int32.ofNat (h c)) (Int32.ofNat (k c)) (Int32.ofNat i)) (rdK len tm F M)) := by
    intro hout
    unfold kBp
    simp only [z_chk (show c < 4 by omega) (show 4 < 2147483648 by omega), z_ix (show c < 2147483648 by omega), nh_let, z_succ, nh_b6]
    unfold rdK
    rw [if_neg (by decide)]
    refine HA (c + 1) h k w hd kn wo (upd rh c (Int32.ofNat (k c))) (upd ro c (Int32.ofNat (h c))) rw M N ok pc hw (fun p hp => ?_) hm (Or.inr hout) hN hM
    rw [Nat.mul_zero, Nat.zero_add]
    by_cases e : p = c
    · subst e; rw [upd_same, upd_same]; exact ⟨rfl, rfl⟩
    · rw [upd_ne e, upd_ne e]
      have := cm p (by omega)
      rw [Nat.mul_zero, Nat.zero_add] at this
      exact this
  have hL : fX11_readPerson_L122 (Int32.ofNat len) tm (Int32.ofNat c) rh ro rw (kBp (Int32.ofNat c) rh ro rw (Int32.ofNat (h c))) (N2 + 1) (Int32.ofNat (k c)) (Int32.ofNat i) = fX11_readPerson_B122 (Int32.ofNat len) tm (Int32.ofNat c) rh ro rw (kBp (Int32.ofNat c) rh ro rw (Int32.ofNat (h c))) (fX11_readPerson_L122 (Int32.ofNat len) tm (Int32.ofNat c) rh ro rw (kBp (Int32.ofNat c) rh ro rw (Int32.ofNat (h c))) N2) (Int32.ofNat (k c)) (Int32.ofNat i) := rfl
  rw [hL]
  unfold fX11_readPerson_B122
  by_cases he : i = len
  · have es : fX11_sign (Int32.ofNat len) (Int32.ofNat i) tm = some (-9) := by rw [he]; exact mM_sign_end
    rw [es]
    simp only [nh_b1]
    rw [if_pos (by decide)]
    exact out (Or.inl he)
  · have hb := (o.2 i (by omega)).1
    rw [mM_sign o (show i < len by omega)]
    simp only [nh_b1]
    by_cases hs : isS (bt i) = true
    · obtain ⟨s1, s2, s3⟩ := sgI_sort hs
      have g := isS_ge hs
      rw [if_neg s2, if_neg s3, s1, mM_has _ vc.2.1 _ (show bt i - 97 < 6 by omega)]
      obtain ⟨N, rfl⟩ : ∃ M, N = M + 1 := ⟨N - 1, by omega⟩
      rw [CL_step o (show i < len by omega), aC_take8 (show c < 4 by omega) hb (by omega), aC_takeKnown ok pc hb]
      cases ht : (k c).testBit (bt i - 97) with
      | true =>
        rw [if_neg (by rw [hs]; decide), if_neg (show ¬ b01 true = 0 by decide)]
        simp only [nh_b2, nh_b5, nh_b6]
        unfold rdK
        rw [if_pos (by decide), if_pos (by decide)]
        exact txR_bad (show i ≤ 64 by omega) rfl rfl
      | false =>
        rw [if_pos (by rw [hs]; decide), if_pos (show b01 false = 0 from rfl)]
        simp only [nh_b2, nh_b5, nh_let, z_succ]
        rw [if_neg (by decide), z_or _ vc.2.1 _ (show bt i - 97 < 6 by omega)]
        have J := HB (by omega) c h (fun p => if p = c then k c ||| 2 ^ (bt i - 97) else k p) w hd (upd kn c (Int32.ofNat (k c ||| 2 ^ (bt i - 97)))) wo rh ro rw M N N2 ⟨hn, fun p hp => by
          try dsimp only
          by_cases e : p = c
          · subst e
            rw [if_pos rfl]
            refine ⟨vc.1, z_or_lt _ vc.2.1 _ (by omega), fun h6 => ?_⟩
            rw [Nat.testBit_or, vc.2.2 h6]; rfl
          · rw [if_neg e]; exact ok.2 p hp⟩ (fun p hp => by
          try dsimp only
          by_cases e : p = c
          · subst e; rw [upd_same, if_pos rfl]; exact ⟨(pc p hp).1, rfl⟩
          · rw [upd_ne e, if_neg e]; exact pc p hp) hw (fun p hp => by
          try dsimp only
          rw [if_neg (show ¬ p = c by omega)]; exact cm p hp) hm (by omega) (by omega) (by omega)
        rw [if_pos rfl] at J
        exact J
    · rw [sgI_not hs]
      by_cases h45 : bt i = 45
      · rw [if_pos h45, if_neg (by decide), if_pos rfl]
        exact out (Or.inr hs)
      · rw [if_neg h45, if_pos rfl]
        exact out (Or.inr hs)
/-- in what the sorts are worth -/
theorem txW (o : tOk len bt tc tm) {F i0 : Nat} (hF : 100 ≤ F) (HB : ∀ i, i0 ≤ i → i ≤ len → txB len tc tm F i) {c : Nat} {h k : Nat → Nat} {hd kn rh ro : Nat → Int32} (ok : pOk (c + 1) h k) (pc : pC (c + 1) h k hd kn) (cm : pM c h k rh ro 0) (kW : Int32 → Int32 → (Nat → Int32) → Option (Int32 × Int32 × Int32 × (Nat → Int32) × (Nat → Int32) × (Nat → Int32))) (hkW : ∀ x pl rw', kW x pl rw' = fX11_readPerson_L122 (Int32.ofNat len) tm (Int32.ofNat c) rh ro rw' (kBp (Int32.ofNat c) rh ro rw' (Int32.ofNat (h c))) F (Int32.ofNat (k c)) pl) : ∀ (j s i : Nat) (w : Nat → Nat) (wo rw : Nat → Int32) (M N N3 : Nat), s + j = 6 → i0 ≤ i → i ≤ len → wOk c w wo → wOk c w rw → (∀ t, t < s → wo (6 * c + t) = Int32.ofNat (w (6 * c + t)) ∧ rw (6 * c + t) = Int32.ofNat (w (6 * c + t)) ∧ w (6 * c + t) ≤ 9) → len - i < N → len - i < M → j < N3 → txR (CLx len tc N (Int32.ofNat (2 + s)) (Int32.ofNat i) (Int32.ofNat (c + 1)) hd kn wo) (nh_b6 (fX11_readPerson_L25 (Int32.ofNat len) (Int32.ofNat c) rh ro tm kW N3 (Int32.ofNat s) (Int32.ofNat i) rw) (rdK len tm F M)) := by
  have h64 := o.1
  have hn := ok.1
  intro j
  induction j with
  | zero =>
    intro s i w wo rw M N N3 hs hi0 hi hw hm ht hN hM hN3
    obtain ⟨N3, rfl⟩ : ∃ M, N3 = M + 1 := ⟨N3 - 1, by omega⟩
    have e : fX11_readPerson_L25 (Int32.ofNat len) (Int32.ofNat c) rh ro tm kW (N3 + 1) (Int32.ofNat s) (Int32.ofNat i) rw = kW (Int32.ofNat s) (Int32.ofNat i) rw := by
      show fX11_readPerson_B25 _ _ _ _ _ _ _ _ _ _ = _
      unfold fX11_readPerson_B25
      rw [show s = 6 by omega, if_pos (by decide)]
    rw [e, hkW, show s = 6 by omega]
    have up : ∀ wx : Nat → Int32, wOk c w wx → (∀ t, t < s → wx (6 * c + t) = Int32.ofNat (w (6 * c + t)) ∧ w (6 * c + t) ≤ 9) → wOk (c + 1) w wx := fun wx h1 h2 p t hp ht => by
      by_cases e : p = c
      · subst e; exact h2 t (by omega)
      · exact h1 p t (by omega) ht
    exact HB i hi0 hi c h k w hd kn wo rh ro rw M N F ok pc (up wo hw (fun t h => ⟨(ht t h).1, (ht t h).2.2⟩)) cm (up rw hm (fun t h => ⟨(ht t h).2.1, (ht t h).2.2⟩)) hN hM (by omega)
  | succ j ih =>
    intro s i w wo rw M N N3 hs hi0 hi hw hm ht hN hM hN3
    obtain ⟨N3, rfl⟩ : ∃ M, N3 = M + 1 := ⟨N3 - 1, by omega⟩
    obtain ⟨N, rfl⟩ : ∃ M, N = M + 1 := ⟨N - 1, by omega⟩
    have hL : fX11_readPerson_L25 (Int32.ofNat len) (Int32.ofNat c) rh ro tm kW (N3 + 1) (Int32.ofNat s) (Int32.ofNat i) rw = fX11_readPerson_B25 (Int32.ofNat len) (Int32.ofNat c) rh ro tm kW (fX11_readPerson_L25 (Int32.ofNat len) (Int32.ofNat c) rh ro tm kW N3) (Int32.ofNat s) (Int32.ofNat i) rw := rfl
    rw [hL]
    unfold fX11_readPerson_B25
    rw [if_neg (show ¬ (6 : Int32) ≤ Int32.ofNat s from fun q => absurd ((z_le (a := 6) (b := s) (by omega) (by omega)).mp q) (by omega))]
    by_cases he : i = len
    · rw [he, if_pos rfl, CL_end, if_neg (show ¬ Int32.ofNat (2 + s) = 8 from fun z => absurd ((z_eq (a := 2 + s) (b := 8) (by omega) (by omega)).mp z) (by omega))]
      simp only [nh_b6]
      unfold rdK
      rw [if_pos (by decide)]
      exact txR_bad h64 rfl rfl
    · have hb := (o.2 i (by omega)).1
      rw [if_neg (fun q => he ((z_eq (by omega) (by omega)).mp q)), z_chk (show i < 64 by omega) (by omega), z_ix (by omega), (o.2 i (by omega)).2.2, z_dig _ hb, CL_step o (show i < len by omega), aC_take2 (show c < 4 by omega) hb (show s < 6 by omega)]
      by_cases hd' : 48 ≤ bt i ∧ bt i ≤ 57
      · rw [if_pos hd', decide_eq_true hd', if_neg (show ¬ b01 true = 0 by decide)]
        simp only [nh_b5]
        rw [if_neg (z_ne9 (by omega)), show Int32.ofNat (bt i) - 48 = Int32.ofNat (bt i - 48) from by rw [show (48 : Int32) = Int32.ofNat 48 from rfl, z_sub (by omega)]]
        simp only [show (6 : Int32) = Int32.ofNat 6 from rfl, z_mul, z_add, z_chk (show i < 64 by omega) (show 64 < 2147483648 by omega), z_chk (show 6 * c + s < 24 by omega) (show 24 < 2147483648 by omega), z_ix (show 6 * c + s < 2147483648 by omega), nh_let, z_succ]
        have up : ∀ wx : Nat → Int32, wOk c w wx → wOk c (fun q => if q = 6 * c + s then bt i - 48 else w q) (upd wx (6 * c + s) (Int32.ofNat (bt i - 48))) := fun wx h1 p t hp ht => by
          try dsimp only
          rw [upd_ne (by omega), if_neg (by omega)]
          exact h1 p t hp ht
        exact ih (s + 1) (i + 1) (fun q => if q = 6 * c + s then bt i - 48 else w q) (upd wo (6 * c + s) (Int32.ofNat (bt i - 48))) (upd rw (6 * c + s) (Int32.ofNat (bt i - 48))) M N N3 (by omega) (by omega) (by omega) (up wo hw) (up rw hm) (fun t hts => by
          try dsimp only
          by_cases e : t = s
          · subst e
            rw [upd_same, upd_same, if_pos rfl]
            exact ⟨rfl, rfl, by omega⟩
          · rw [upd_ne (by omega), upd_ne (by omega), if_neg (by omega)]
            exact ht t (by omega)) (by omega) (by omega) (by omega)
      · rw [if_neg hd', decide_eq_false hd', if_pos (show b01 false = 0 from rfl)]
        simp only [nh_b5, nh_b6]
        unfold rdK
        rw [if_pos trivial, if_pos (by decide)]
        exact txR_bad (show i ≤ 64 by omega) rfl rfl
end TEXT
