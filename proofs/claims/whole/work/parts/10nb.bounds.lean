/-! one bound of turns for all fairs -/
theorem rst_len {n : Nat} {h k : Nat → Nat} : ∀ j c, (rst n h k j c).length ≤ j
  | 0, _ => Nat.le_refl _
  | j + 1, c => by
    show (if okc n h k c = true then c :: rst n h k j (c + 1) else rst n h k j (c + 1)).length ≤ j + 1
    have := rst_len (n := n) (h := h) (k := k) j (c + 1)
    split
    · rw [List.length_cons]; omega
    · omega
theorem foldr_ub {B : Nat} (g : Nat → Nat) (hg : ∀ x, g x ≤ B) : ∀ l : List Nat, l.foldr (fun x acc => acc + g x + 1) 1 ≤ 1 + l.length * (B + 1)
  | [] => by simp
  | x :: l => by
    rw [List.foldr_cons, List.length_cons]
    have := foldr_ub g hg l
    have := hg x
    have e : (l.length + 1) * (B + 1) = l.length * (B + 1) + (B + 1) := by rw [Nat.add_mul, Nat.one_mul]
    omega
theorem stp_ub : ∀ f : Nat, ∃ B, ∀ n h k, stp n f h k ≤ B
  | 0 => ⟨1, fun _ _ _ => Nat.le_refl _⟩
  | f + 1 => by
    obtain ⟨B, hB⟩ := stp_ub f
    refine ⟨1 + 40 * (B + 1), fun n h k => ?_⟩
    show (rst n h k 40 0).foldr (fun x acc => acc + stp n f (sH h x) (sK h k x) + 1) 1 ≤ _
    have h1 := foldr_ub (fun x => stp n f (sH h x) (sK h k x)) (fun x => hB n _ _) (rst n h k 40 0)
    have h2 : (rst n h k 40 0).length * (B + 1) ≤ 40 * (B + 1) := Nat.mul_le_mul_right _ (rst_len 40 0)
    exact Nat.le_trans h1 (Nat.add_le_add_left h2 1)
theorem cst_ub {n : Nat} {h k w : Nat → Nat} {p B : Nat} (C : Nat → Nat) (hC : ∀ x, C x ≤ B) : ∀ l : List Nat, cst n h k w p C l ≤ 1 + l.length * (B + 1)
  | [] => by simp [cst]
  | x :: l => by
    show (if tkB h k w p x = true then cst n h k w p C l + C x + 1 else cst n h k w p C l) ≤ _
    rw [List.length_cons]
    have := cst_ub (n := n) (h := h) (k := k) (w := w) (p := p) C hC l
    have := hC x
    have e : (l.length + 1) * (B + 1) = l.length * (B + 1) + (B + 1) := by rw [Nat.add_mul, Nat.one_mul]
    split <;> omega
theorem stT_ub : ∀ m : Nat, ∃ B, ∀ n w t h k, n ≤ 4 → stT n w m t h k ≤ B
  | 0 => ⟨1, fun _ _ _ _ _ _ => Nat.le_refl _⟩
  | m + 1 => by
    obtain ⟨B, hB⟩ := stT_ub m
    refine ⟨1 + 4 * (B + 1) + B + 1, fun n w t h k hn => ?_⟩
    show cst n h k w (t % n) (fun i => stT n w m (t + 1) (swH h (t % n) i) (swK h k (t % n) i)) (List.range' 0 n) + stT n w m (t + 1) h k + 1 ≤ _
    have h1 := cst_ub (n := n) (h := h) (k := k) (w := w) (p := t % n) (fun i => stT n w m (t + 1) (swH h (t % n) i) (swK h k (t % n) i)) (fun x => hB n w _ _ _ hn) (List.range' 0 n)
    rw [List.length_range'] at h1
    have h2 : n * (B + 1) ≤ 4 * (B + 1) := Nat.mul_le_mul_right _ hn
    have h3 := hB n w (t + 1) h k hn
    omega
theorem stT_ub6 : ∃ B, ∀ n w K t h k, n ≤ 4 → K ≤ 6 → stT n w K t h k ≤ B := by
  obtain ⟨B0, h0⟩ := stT_ub 0
  obtain ⟨B1, h1⟩ := stT_ub 1
  obtain ⟨B2, h2⟩ := stT_ub 2
  obtain ⟨B3, h3⟩ := stT_ub 3
  obtain ⟨B4, h4⟩ := stT_ub 4
  obtain ⟨B5, h5⟩ := stT_ub 5
  obtain ⟨B6, h6⟩ := stT_ub 6
  refine ⟨B0 + B1 + B2 + B3 + B4 + B5 + B6, fun n w K t h k hn hK => ?_⟩
  rcases (show K = 0 ∨ K = 1 ∨ K = 2 ∨ K = 3 ∨ K = 4 ∨ K = 5 ∨ K = 6 by omega) with rfl | rfl | rfl | rfl | rfl | rfl | rfl
  · have := h0 n w t h k hn; omega
  · have := h1 n w t h k hn; omega
  · have := h2 n w t h k hn; omega
  · have := h3 n w t h k hn; omega
  · have := h4 n w t h k hn; omega
  · have := h5 n w t h k hn; omega
  · have := h6 n w t h k hn; omega
def stS (n : Nat) (h k : Nat → Nat) : Nat → Nat
  | 0 => 0
  | m + 1 => stS n h k m + stp n m h k
theorem stS_ub : ∀ M : Nat, ∃ B, ∀ n h k, stS n h k M ≤ B
  | 0 => ⟨0, fun _ _ _ => Nat.le_refl _⟩
  | M + 1 => by
    obtain ⟨B, hB⟩ := stS_ub M
    obtain ⟨C, hC⟩ := stp_ub M
    refine ⟨B + C, fun n h k => ?_⟩
    show stS n h k M + stp n M h k ≤ _
    have := hB n h k
    have := hC n h k
    omega
theorem ub_all : ∃ U : Nat, 300 ≤ U ∧ (∀ n h k, 60 + stp n 13 h k ≤ U) ∧ (∀ n p h k, 60 + stB n p h k ≤ U) ∧ (∀ n h k, 60 + stS n h k 13 ≤ U) ∧ ∀ n w K t h k, n ≤ 4 → K ≤ 6 → 10 + stT n w K t h k ≤ U := by
  obtain ⟨A, hA⟩ := stp_ub 13
  obtain ⟨B, hB⟩ := stS_ub 13
  obtain ⟨C, hC⟩ := stT_ub6
  refine ⟨300 + 6 * A + B + C, by omega, fun n h k => ?_, fun n p h k => ?_, fun n h k => ?_, fun n w K t h k hn hK => ?_⟩
  · have := hA n h k; omega
  · unfold stB
    have := hA n (upN h p 0) (upN k p (2 ^ 0))
    have := hA n (upN h p 1) (upN k p (2 ^ 1))
    have := hA n (upN h p 2) (upN k p (2 ^ 2))
    have := hA n (upN h p 3) (upN k p (2 ^ 3))
    have := hA n (upN h p 4) (upN k p (2 ^ 4))
    have := hA n (upN h p 5) (upN k p (2 ^ 5))
    omega
  · have := hB n h k; omega
  · have := hC n w K t h k hn hK; omega
noncomputable def UBF : Nat := Classical.choose ub_all
theorem ub_300 : 300 ≤ UBF := (Classical.choose_spec ub_all).1
theorem ub_stp (n : Nat) (h k : Nat → Nat) : 60 + stp n 13 h k ≤ UBF := (Classical.choose_spec ub_all).2.1 n h k
theorem ub_stB (n p : Nat) (h k : Nat → Nat) : 60 + stB n p h k ≤ UBF := (Classical.choose_spec ub_all).2.2.1 n p h k
theorem ub_stS (n : Nat) (h k : Nat → Nat) : 60 + stS n h k 13 ≤ UBF := (Classical.choose_spec ub_all).2.2.2.1 n h k
theorem ub_stT {n : Nat} (hn : n ≤ 4) (w : Nat → Nat) {K : Nat} (hK : K ≤ 6) (t : Nat) (h k : Nat → Nat) : 10 + stT n w K t h k ≤ UBF := (Classical.choose_spec ub_all).2.2.2.2 n w K t h k hn hK
