/-! write, fair: the two sides alike -/
theorem z_bitx (x : Int32) : ∃ b : Nat, b < 256 ∧ x &&& 255 = Int32.ofNat b := by
  refine ⟨(x.toBitVec &&& 255#32).toNat, ?_, ?_⟩
  · rw [BitVec.toNat_and]
    exact Nat.lt_of_le_of_lt Nat.and_le_right (by decide)
  · apply Int32.toBitVec_inj.1
    show x.toBitVec &&& 255#32 = BitVec.ofNat 32 (x.toBitVec &&& 255#32).toNat
    rw [BitVec.ofNat_toNat, BitVec.setWidth_eq]
theorem z_shA : ∀ i : Nat, i < 8 → (((Int32.toInt64 (8 * Int32.ofNat i)).toUInt64 &&& Int64.toUInt64 63).toBitVec % 64).toNat = 8 * i := by decide +kernel
theorem z_shB : ∀ i : Nat, i < 8 → ((Int32.toInt64 (8 * Int32.ofNat i) &&& 63).toBitVec.smod 64).toNat = 8 * i := by decide +kernel
theorem z_255 : ∀ b : Nat, b < 32 → ¬ b < 8 → (255 : Int32).toBitVec.getLsbD b = false := by decide +kernel
theorem z_byte (v : Int64) {i : Nat} (hi : i < 8) : (Int64.toInt32 ((Int64.toUInt64 v >>> ((Int32.toInt64 (8 * Int32.ofNat i)).toUInt64 &&& Int64.toUInt64 63)).toInt64)) &&& 255 = (Int64.toInt32 (v >>> (Int32.toInt64 (8 * Int32.ofNat i) &&& 63))) &&& 255 := by
  apply Int32.toBitVec_inj.1
  apply BitVec.eq_of_getLsbD_eq
  intro b hb
  rw [Int32.toBitVec_and, Int32.toBitVec_and, BitVec.getLsbD_and, BitVec.getLsbD_and]
  by_cases h8 : b < 8
  · have e1 : (Int64.toInt32 ((Int64.toUInt64 v >>> ((Int32.toInt64 (8 * Int32.ofNat i)).toUInt64 &&& Int64.toUInt64 63)).toInt64)).toBitVec.getLsbD b = v.toBitVec.getLsbD (8 * i + b) := by
      rw [Int64.toBitVec_toInt32, BitVec.getLsbD_signExtend, if_pos (by omega), UInt64.toBitVec_toInt64, UInt64.toBitVec_shiftRight]
      show (decide (b < 32) && (v.toBitVec >>> (((Int32.toInt64 (8 * Int32.ofNat i)).toUInt64 &&& Int64.toUInt64 63).toBitVec % 64).toNat).getLsbD b) = _
      rw [z_shA i hi, BitVec.getLsbD_ushiftRight, decide_eq_true hb, Bool.true_and]
    have e2 : (Int64.toInt32 (v >>> (Int32.toInt64 (8 * Int32.ofNat i) &&& 63))).toBitVec.getLsbD b = v.toBitVec.getLsbD (8 * i + b) := by
      rw [Int64.toBitVec_toInt32, BitVec.getLsbD_signExtend, if_pos (by omega), Int64.toBitVec_shiftRight]
      show (decide (b < 32) && (v.toBitVec.sshiftRight ((Int32.toInt64 (8 * Int32.ofNat i) &&& 63).toBitVec.smod 64).toNat).getLsbD b) = _
      rw [z_shB i hi, BitVec.getLsbD_sshiftRight, if_pos (by omega), decide_eq_true hb, decide_eq_false (by omega)]
      rfl
    rw [e1, e2]
  · rw [z_255 b hb h8, Bool.and_false, Bool.and_false]
theorem tOk_push {len : Nat} {bt : Nat → Nat} {tc tm : Nat → Int32} (o : tOk len bt tc tm) (h : len < 64) {b : Nat} (hb : b < 256) : tOk (len + 1) (fun i => if i = len then b else bt i) (upd tc len (Int32.ofNat b)) (upd tm len (Int32.ofNat b)) := by
  refine ⟨by omega, fun i hi => ?_⟩
  try dsimp only
  by_cases e : i = len
  · subst e; rw [upd_same, upd_same, if_pos rfl]; exact ⟨hb, rfl, rfl⟩
  · rw [upd_ne e, upd_ne e, if_neg e]; exact o.2 i (by omega)
theorem write_loop (v : Int64) (kC : Int32 → Int32 → (Nat → Int32) → Option (Int32 × (Nat → Int32))) (kM : Int32 → Int32 → (Nat → Int32) → Option (Int32 × Int32 × Int32 × (Nat → Int32))) : ∀ (j l N : Nat) (bt : Nat → Nat) (tc tm : Nat → Int32), j ≤ 8 → l + j ≤ 64 → j < N → tOk l bt tc tm → ∃ bt' tc' tm', fX7_append_L5 v kC N (Int32.ofNat j - 1) (Int32.ofNat l) tc = kC (-1) (Int32.ofNat (l + j)) tc' ∧ fX11_write_L39 v kM N (Int32.ofNat j - 1) (Int32.ofNat l) tm = kM (-1) (Int32.ofNat (l + j)) tm' ∧ tOk (l + j) bt' tc' tm' := by
  intro j
  induction j with
  | zero =>
    intro l N bt tc tm h8 hl hN o
    obtain ⟨N, rfl⟩ : ∃ M, N = M + 1 := ⟨N - 1, by omega⟩
    refine ⟨bt, tc, tm, ?_, ?_, o⟩
    · show fX7_append_B5 _ _ _ _ _ _ = _
      unfold fX7_append_B5
      rw [if_pos (by decide)]; rfl
    · show fX11_write_B39 _ _ _ _ _ _ = _
      unfold fX11_write_B39
      rw [if_pos (by decide)]; rfl
  | succ j ih =>
    intro l N bt tc tm h8 hl hN o
    obtain ⟨N, rfl⟩ : ∃ M, N = M + 1 := ⟨N - 1, by omega⟩
    obtain ⟨b, hb, eb⟩ := z_bitx (Int64.toInt32 (v >>> (Int32.toInt64 (8 * Int32.ofNat j) &&& 63)))
    obtain ⟨bt', tc', tm', i1, i2, i3⟩ := ih (l + 1) N (fun i => if i = l then b else bt i) (upd tc l (Int32.ofNat b)) (upd tm l (Int32.ofNat b)) (by omega) (by omega) (by omega) (tOk_push o (by omega) hb)
    have ej : Int32.ofNat (j + 1) - 1 = Int32.ofNat j := by rw [show (1 : Int32) = Int32.ofNat 1 from rfl, z_sub (by omega), Nat.add_sub_cancel]
    have em : Int32.ofNat j + -1 = Int32.ofNat j - 1 := Int32.add_neg_eq_sub
    rw [show l + 1 + j = l + (j + 1) by omega] at i1 i2 i3
    refine ⟨bt', tc', tm', ?_, ?_, i3⟩
    · show fX7_append_B5 _ _ _ _ _ _ = _
      unfold fX7_append_B5
      rw [ej, if_neg (z_nn (by omega)), if_neg (show ¬ (64 : Int32) ≤ Int32.ofNat l from fun z => absurd ((z_le (a := 64) (b := l) (by omega) (by omega)).mp z) (by omega)), z_byte v (show j < 8 by omega), eb]
      simp only [z_chk (show l < 64 by omega) (show 64 < 2147483648 by omega), z_ix (show l < 2147483648 by omega), nh_let, z_succ, em]
      exact i1
    · show fX11_write_B39 _ _ _ _ _ _ = _
      unfold fX11_write_B39
      rw [ej, if_neg (z_nn (by omega)), eb]
      simp only [z_chk (show l < 64 by omega) (show 64 < 2147483648 by omega), z_ix (show l < 2147483648 by omega), nh_let, z_succ, em]
      exact i2
theorem z_18 (a : Int32) : (a < 1) ∨ (¬ a < 1 ∧ ¬ a ≤ 8) ∨ ∃ K : Nat, a = Int32.ofNat K ∧ 1 ≤ K ∧ K ≤ 8 := by
  by_cases h1 : a < 1
  · exact Or.inl h1
  · by_cases h8 : a ≤ 8
    · right; right
      rcases z_cases a with g | ⟨K, rfl, hK⟩
      · refine absurd ?_ h1
        rw [Int32.lt_iff_toInt_lt] at g ⊢
        have e0 : (0 : Int32).toInt = 0 := rfl
        have e1 : (1 : Int32).toInt = 1 := rfl
        omega
      · refine ⟨K, rfl, ?_, (z_le (a := K) (b := 8) hK (by omega)).mp h8⟩
        have : ¬ K < 1 := fun q => h1 ((z_lt (a := K) (b := 1) hK (by omega)).mpr q)
        omega
    · exact Or.inr (Or.inl ⟨h1, h8⟩)
section FAIR
variable {len : Nat} {bt : Nat → Nat} {tc tm : Nat → Int32}
theorem pair_write (o : tOk len bt tc tm) {F : Nat} (hF : 100 ≤ F) (a th : Int32) (v : Int64) : ∃ (r : Int32) (len' : Nat) (bt' : Nat → Nat) (tc' tm' : Nat → Int32), fX10_write F (Int32.ofNat len) tc a v = some (r, Int32.ofNat len', tc') ∧ fX11_write F th (Int32.ofNat len) tm a v = some (r, 0, Int32.ofNat len', tm') ∧ tOk len' bt' tc' tm' := by
  have h64 := o.1
  have hin : fX11_in (Int32.toInt64 a) 1 8 = b01 (decide (1 ≤ a ∧ a ≤ 8)) := by
    rw [show (1 : Int64) = Int32.toInt64 1 from rfl, show (8 : Int64) = Int32.toInt64 8 from rfl, mM_in]
  unfold fX10_write fX11_write
  rw [hin]
  rcases z_18 a with g | g | ⟨K, rfl, K1, K8⟩
  · refine ⟨-2, len, bt, tc, tm, ?_, ?_, o⟩
    · rw [if_pos g]
    · rw [decide_eq_false (fun z => Int32.not_lt.mpr z.1 g), if_pos (by decide)]
  · refine ⟨-2, len, bt, tc, tm, ?_, ?_, o⟩
    · rw [if_neg g.1, if_neg g.2]
    · rw [decide_eq_false (fun z => g.2 z.2), if_pos (by decide)]
  · have i1 : ¬ Int32.ofNat K < 1 := fun z => absurd ((z_lt (a := K) (b := 1) (by omega) (by omega)).mp z) (by omega)
    have i2 : Int32.ofNat K ≤ 8 := (z_le (a := K) (b := 8) (by omega) (by omega)).mpr K8
    rw [if_neg i1, if_pos i2, decide_eq_true (show 1 ≤ Int32.ofNat K ∧ Int32.ofNat K ≤ 8 from ⟨Int32.not_lt.mp i1, i2⟩), if_neg (show ¬ b01 true = 0 by decide), z_add]
    by_cases hl : len + K ≤ 64
    · have e64 : Int32.ofNat (len + K) ≤ 64 := (z_le (a := len + K) (b := 64) (by omega) (by omega)).mpr hl
      rw [if_pos e64, if_pos e64]
      obtain ⟨bt', tc', tm', e1, e2, e3⟩ := write_loop v (fun x4_5 t_length_6 t_bytes_7 => some (t_length_6, t_bytes_7)) (fun x4_7 t_textSize_8 t_text_9 => some (t_textSize_8, 0, t_textSize_8, t_text_9)) K len F bt tc tm K8 hl (by omega) o
      refine ⟨Int32.ofNat (len + K), len + K, bt', tc', tm', ?_, ?_, e3⟩
      · unfold fX7_append
        simp only [nh_let]
        rw [e1]
        rfl
      · simp only [nh_let]
        exact e2
    · have e64 : ¬ Int32.ofNat (len + K) ≤ 64 := fun z => hl ((z_le (a := len + K) (b := 64) (by omega) (by omega)).mp z)
      exact ⟨-4, len, bt, tc, tm, by rw [if_neg e64], by rw [if_neg e64], o⟩
theorem cpy4 {f g : Nat → Int32} {p : Nat} (hp : p < 4) : va_cpy f g (Int32.toNatClampNeg (0 : Int32)) (Int32.toNatClampNeg (0 : Int32)) (Int32.toNatClampNeg (4 : Int32)) p = f p := va_cpy0 (n := 4) (by omega) hp
theorem cpy24 {f g : Nat → Int32} {p : Nat} (hp : p < 24) : va_cpy f g (Int32.toNatClampNeg (0 : Int32)) (Int32.toNatClampNeg (0 : Int32)) (Int32.toNatClampNeg (24 : Int32)) p = f p := va_cpy0 (n := 24) (by omega) hp
theorem aC_forget (kk : Int32 → (Nat → Int32) → Option (Nat → Int32)) : ∀ (j i N : Nat) (w : Nat → Int32), i + j = 4 → j < N → (∀ q, q < i → w q = -9) → ∃ w', fX9_forget_L2 kk N (Int32.ofNat i) w = kk 4 w' ∧ ∀ q, q < 4 → w' q = -9 := by
  intro j
  induction j with
  | zero =>
    intro i N w hi hN a
    obtain ⟨N, rfl⟩ : ∃ M, N = M + 1 := ⟨N - 1, by omega⟩
    refine ⟨w, ?_, fun q hq => a q (by omega)⟩
    show fX9_forget_B2 _ _ _ _ = _
    unfold fX9_forget_B2
    rw [show i = 4 by omega, if_pos (by decide)]; rfl
  | succ j ih =>
    intro i N w hi hN a
    obtain ⟨N, rfl⟩ : ∃ M, N = M + 1 := ⟨N - 1, by omega⟩
    obtain ⟨w', e1, e2⟩ := ih (i + 1) N (upd w i (-9)) (by omega) (by omega) (fun q hq => by
      by_cases e : q = i
      · rw [e, upd_same]
      · rw [upd_ne e]; exact a q (by omega))
    refine ⟨w', ?_, e2⟩
    show fX9_forget_B2 _ _ _ _ = _
    unfold fX9_forget_B2
    rw [if_neg (show ¬ (4 : Int32) ≤ Int32.ofNat i from fun z => absurd ((z_le (a := 4) (b := i) (by omega) (by omega)).mp z) (by omega))]
    simp only [z_chk (show i < 4 by omega) (show 4 < 2147483648 by omega), z_ix (show i < 2147483648 by omega), nh_let, z_succ]
    exact e1
abbrev FRM := Option (Int32 × Int32 × Int32 × Int32 × Int32 × Int32 × (Nat → Int32) × (Nat → Int32) × (Nat → Int32) × (Nat → Int32) × (Nat → Int32) × (Nat → Int32) × (Nat → Int32) × (Nat → Int32))
theorem mM_fair67 (kk : Int32 → (Nat → Int32) → FRM) : ∀ (j i N : Nat) (w : Nat → Int32), i + j = 4 → j < N → (∀ q, q < i → w q = -9) → ∃ w', fX11_fair_L67 kk N (Int32.ofNat i) w = kk 4 w' ∧ ∀ q, q < 4 → w' q = -9 := by
  intro j
  induction j with
  | zero =>
    intro i N w hi hN a
    obtain ⟨N, rfl⟩ : ∃ M, N = M + 1 := ⟨N - 1, by omega⟩
    refine ⟨w, ?_, fun q hq => a q (by omega)⟩
    show fX11_fair_B67 _ _ _ _ = _
    unfold fX11_fair_B67
    rw [show i = 4 by omega, if_pos (by decide)]; rfl
  | succ j ih =>
    intro i N w hi hN a
    obtain ⟨N, rfl⟩ : ∃ M, N = M + 1 := ⟨N - 1, by omega⟩
    obtain ⟨w', e1, e2⟩ := ih (i + 1) N (upd w i (-9)) (by omega) (by omega) (fun q hq => by
      by_cases e : q = i
      · rw [e, upd_same]
      · rw [upd_ne e]; exact a q (by omega))
    refine ⟨w', ?_, e2⟩
    show fX11_fair_B67 _ _ _ _ = _
    unfold fX11_fair_B67
    rw [if_neg (show ¬ (4 : Int32) ≤ Int32.ofNat i from fun z => absurd ((z_le (a := 4) (b := i) (by omega) (by omega)).mp z) (by omega))]
    simp only [z_chk (show i < 4 by omega) (show 4 < 2147483648 by omega), z_ix (show i < 2147483648 by omega), nh_let, z_succ]
    exact e1
theorem mM_fair88 (rw0 : Nat → Int32) (kk : Int32 → (Nat → Int32) → FRM) : ∀ (j i N : Nat) (w : Nat → Int32), i + j = 24 → j < N → (∀ q, q < i → w q = rw0 q) → ∃ w', fX11_fair_L88 rw0 kk N (Int32.ofNat i) w = kk 24 w' ∧ ∀ q, q < 24 → w' q = rw0 q := by
  intro j
  induction j with
  | zero =>
    intro i N w hi hN a
    obtain ⟨N, rfl⟩ : ∃ M, N = M + 1 := ⟨N - 1, by omega⟩
    refine ⟨w, ?_, fun q hq => a q (by omega)⟩
    show fX11_fair_B88 _ _ _ _ _ = _
    unfold fX11_fair_B88
    rw [show i = 24 by omega, if_pos (by decide)]; rfl
  | succ j ih =>
    intro i N w hi hN a
    obtain ⟨N, rfl⟩ : ∃ M, N = M + 1 := ⟨N - 1, by omega⟩
    obtain ⟨w', e1, e2⟩ := ih (i + 1) N (upd w i (rw0 i)) (by omega) (by omega) (fun q hq => by
      by_cases e : q = i
      · rw [e, upd_same]
      · rw [upd_ne e]; exact a q (by omega))
    refine ⟨w', ?_, e2⟩
    show fX11_fair_B88 _ _ _ _ _ = _
    unfold fX11_fair_B88
    rw [if_neg (show ¬ (24 : Int32) ≤ Int32.ofNat i from fun z => absurd ((z_le (a := 24) (b := i) (by omega) (by omega)).mp z) (by omega))]
    simp only [z_chk (show i < 24 by omega) (show 24 < 2147483648 by omega), z_ix (show i < 2147483648 by omega), nh_let, z_succ]
    exact e1
theorem mM_fair27 {n : Nat} (hn : n ≤ 4) {rh ro : Nat → Int32} (kk : Int32 → (Nat → Int32) → (Nat → Int32) → FRM) : ∀ (j i N : Nat) (had holds : Nat → Int32), i + j = n → j < N → (∀ q, q < i → had q = rh q ∧ holds q = ro q) → ∃ had' holds', fX11_fair_L27 (Int32.ofNat n) rh ro kk N (Int32.ofNat i) had holds = kk (Int32.ofNat n) had' holds' ∧ ∀ q, q < n → had' q = rh q ∧ holds' q = ro q := by
  intro j
  induction j with
  | zero =>
    intro i N had holds hi hN a
    obtain ⟨N, rfl⟩ : ∃ M, N = M + 1 := ⟨N - 1, by omega⟩
    refine ⟨had, holds, ?_, fun q hq => a q (by omega)⟩
    show fX11_fair_B27 _ _ _ _ _ _ _ _ = _
    unfold fX11_fair_B27
    rw [show i = n by omega, if_pos (Int32.le_refl _)]
  | succ j ih =>
    intro i N had holds hi hN a
    obtain ⟨N, rfl⟩ : ∃ M, N = M + 1 := ⟨N - 1, by omega⟩
    obtain ⟨had', holds', e1, e2⟩ := ih (i + 1) N (upd had i (rh i)) (upd holds i (ro i)) (by omega) (by omega) (fun q hq => by
      by_cases e : q = i
      · rw [e, upd_same, upd_same]; exact ⟨rfl, rfl⟩
      · rw [upd_ne e, upd_ne e]; exact a q (by omega))
    refine ⟨had', holds', ?_, e2⟩
    show fX11_fair_B27 _ _ _ _ _ _ _ _ = _
    unfold fX11_fair_B27
    rw [if_neg (fun z => absurd ((z_le (by omega) (by omega)).mp z) (by omega))]
    simp only [z_chk (show i < 4 by omega) (show 4 < 2147483648 by omega), z_chk (show i < 56 by omega) (show 56 < 2147483648 by omega), z_ix (show i < 2147483648 by omega), nh_let, z_succ]
    exact e1
theorem fair_slots (kk : Int32 → Int32 → Int32 → Option (Int32 × Int32 × Int32 × (Nat → Int32) × (Nat → Int32) × (Nat → Int32) × Int32 × (Nat → Int32) × (Nat → Int32) × (Nat → Int32) × Int32 × Int32 × (Nat → Int32))) (M : Nat) (a b : Int32) : fX10_fair_L47 kk (M + 3) 0 a b = kk 2 0 0 := by
  show fX10_fair_B47 kk (fX10_fair_L47 kk (M + 2)) 0 a b = _
  unfold fX10_fair_B47
  rw [if_neg (by decide), if_pos rfl]
  simp only [nh_let]
  show fX10_fair_B47 kk (fX10_fair_L47 kk (M + 1)) (0 + 1) 0 b = _
  unfold fX10_fair_B47
  rw [if_neg (by decide), if_neg (by decide), if_pos (by decide)]
  simp only [nh_let]
  show fX10_fair_B47 kk (fX10_fair_L47 kk M) (0 + 1 + 1) 0 0 = _
  unfold fX10_fair_B47
  rw [if_pos (by decide)]
  rfl
theorem pair_fair (o : tOk len bt tc tm) {F : Nat} (hF : 100 ≤ F) (ac dc pc s0 s1 th pl pe rp ma : Int32) (dh dk dw ph pk pw wc had holds isK rh ro rw wn wm : Nat → Int32) : ∃ dc' dh' dk' dw' pl' rp' rh' ro' rw', (fX10_fair F ac dc dh dk dw pc ph pk pw s0 s1 (Int32.ofNat len) tc wc = some (-3, ac, dc', dh', dk', dw', pc, ph, pk, pw, s0, s1, wc) ∧ fX11_fair F th (Int32.ofNat len) pl pe rp ma had holds isK rh ro rw tm wn wm = some (-3, 0, pl', pe, rp', ma, had, holds, isK, rh', ro', rw', wn, wm)) ∨ ∃ (n : Nat) (h k w : Nat → Nat) (ph' pk' pw' wc' had' holds' isK' wn' wm' : Nat → Int32), fX10_fair F ac dc dh dk dw pc ph pk pw s0 s1 (Int32.ofNat len) tc wc = some (Int32.ofNat n, 0, dc', dh', dk', dw', Int32.ofNat n, ph', pk', pw', 0, 0, wc') ∧ fX11_fair F th (Int32.ofNat len) pl pe rp ma had holds isK rh ro rw tm wn wm = some (Int32.ofNat n, 0, pl', Int32.ofNat n, rp', 0, had', holds', isK', rh', ro', rw', wn', wm') ∧ pOk n h k ∧ pC n h k ph' pk' ∧ wOk n w pw' ∧ pM n h k had' holds' 0 ∧ wOk n w wm' ∧ wnOk wc' wn' ∧ isK' 0 = 0 ∧ isK' 1 = 0 := by
  obtain ⟨r, dc', dh', dk', dw', pl', rp', rh', ro', rw', e1, e2, e3⟩ := tx_read o hF dc pl rp dh dk dw rh ro rw
  refine ⟨dc', dh', dk', dw', pl', rp', rh', ro', rw', ?_⟩
  unfold fX10_fair fX11_fair
  rw [e1, e2]
  simp only [nh_b5, nh_b6]
  by_cases hr : r = -9
  · right
    rw [if_pos hr, if_pos hr]
    obtain ⟨n, h, k, w, rfl, rfl, ok, pc', hw, cm, hm⟩ := e3 hr
    have hn := ok.1
    obtain ⟨M, rfl⟩ : ∃ M, F = M + 3 := ⟨F - 3, by omega⟩
    obtain ⟨wc', f1, f2⟩ := aC_forget (fun x1_3 t_wanted_4 => some t_wanted_4) 4 0 (M + 3) wc (by omega) (by omega) (fun q hq => absurd hq (Nat.not_lt_zero q))
    have f1 : fX9_forget (M + 3) wc = some wc' := f1
    obtain ⟨had', holds', i1, i2⟩ := mM_fair27 hn (rh := rh') (ro := ro') (fun x1_12 t_had_13 t_holds_14 => fX11_fair_L67  (fun x1_25 t_wants_26 => fX11_fair_L88 rw' (fun x1_33 t_worth_34 => nh_let (α := Nat → Int32) (upd isK (Int32.toNatClampNeg (0 : Int32)) (vp_nar .boolean 0)) (fun t_isKept_40 => nh_let (α := Nat → Int32) (upd t_isKept_40 (Int32.toNatClampNeg (1 : Int32)) (vp_nar .boolean 0)) (fun t_isKept_41 => some (Int32.ofNat n, 0, pl', Int32.ofNat n, Int32.ofNat n, 0, t_had_13, t_holds_14, t_isKept_41, rh', ro', rw', t_wants_26, t_worth_34)))) (M + 3) 0 wm) (M + 3) 0 wn) n 0 (M + 3) had holds (by omega) (by omega) (fun q hq => absurd hq (Nat.not_lt_zero q))
    obtain ⟨wn', j1, j2⟩ := mM_fair67 (fun x1_25 t_wants_26 => fX11_fair_L88 rw' (fun x1_33 t_worth_34 => nh_let (α := Nat → Int32) (upd isK (Int32.toNatClampNeg (0 : Int32)) (vp_nar .boolean 0)) (fun t_isKept_40 => nh_let (α := Nat → Int32) (upd t_isKept_40 (Int32.toNatClampNeg (1 : Int32)) (vp_nar .boolean 0)) (fun t_isKept_41 => some (Int32.ofNat n, 0, pl', Int32.ofNat n, Int32.ofNat n, 0, had', holds', t_isKept_41, rh', ro', rw', t_wants_26, t_worth_34)))) (M + 3) 0 wm) 4 0 (M + 3) wn (by omega) (by omega) (fun q hq => absurd hq (Nat.not_lt_zero q))
    obtain ⟨wm', g1, g2⟩ := mM_fair88 rw' (fun x1_33 t_worth_34 => nh_let (α := Nat → Int32) (upd isK (Int32.toNatClampNeg (0 : Int32)) (vp_nar .boolean 0)) (fun t_isKept_40 => nh_let (α := Nat → Int32) (upd t_isKept_40 (Int32.toNatClampNeg (1 : Int32)) (vp_nar .boolean 0)) (fun t_isKept_41 => some (Int32.ofNat n, 0, pl', Int32.ofNat n, Int32.ofNat n, 0, had', holds', t_isKept_41, rh', ro', rw', wn', t_worth_34)))) 24 0 (M + 3) wm (by omega) (by omega) (fun q hq => absurd hq (Nat.not_lt_zero q))
    refine ⟨n, h, k, w, va_cpy dh' ph (Int32.toNatClampNeg (0 : Int32)) (Int32.toNatClampNeg (0 : Int32)) (Int32.toNatClampNeg (4 : Int32)), va_cpy dk' pk (Int32.toNatClampNeg (0 : Int32)) (Int32.toNatClampNeg (0 : Int32)) (Int32.toNatClampNeg (4 : Int32)), va_cpy dw' pw (Int32.toNatClampNeg (0 : Int32)) (Int32.toNatClampNeg (0 : Int32)) (Int32.toNatClampNeg (24 : Int32)), wc', had', holds', upd (upd isK 0 0) 1 0, wn', wm', ?_, ?_, ok, fun p hp => ?_, fun p s hp hs => ?_, fun p hp => ?_, fun p s hp hs => ?_, fun p hp => ?_, ?_, ?_⟩
    · unfold fX1_become
      rw [show nh_cp 0 0 4 4 4 = true by decide +kernel, show nh_cp 0 0 24 24 24 = true by decide +kernel]
      simp only [chk_t, nh_let, nh_b4]
      rw [f1]
      simp only [nh_b1]
      rw [fair_slots]
    · refine (show _ = _ from i1).trans ?_
      refine (show _ = _ from j1).trans ?_
      refine (show _ = _ from g1).trans ?_
      rfl
    · rw [cpy4 (by omega), cpy4 (by omega)]; exact pc' p hp
    · rw [cpy24 (by omega)]; exact hw p s hp hs
    · have := cm p hp
      rw [Nat.mul_zero, Nat.zero_add] at this ⊢
      rw [(i2 p hp).1, (i2 p hp).2]; exact this
    · rw [g2 _ (by omega)]; exact hm p s hp hs
    · rw [f2 p hp, j2 p hp]; exact ⟨rfl, Or.inl rfl⟩
    · rw [upd_ne (by decide), upd_same]
    · rw [upd_same]
  · left
    rw [if_neg hr, if_neg hr]
    exact ⟨rfl, rfl⟩
end FAIR
