/-! own words: a computation's steps, worlds, calls -/
theorem nh_t {β : Type} {C : Prop} [Decidable C] {A B o : β} (h : (if C then A else B) = o) (c : C) : A = o := by rw [if_pos c] at h; exact h
theorem nh_f {β : Type} {C : Prop} [Decidable C] {A B o : β} (h : (if C then A else B) = o) (c : ¬ C) : B = o := by rw [if_neg c] at h; exact h
def nh_let {α β : Type} (e : α) (f : α → β) : β := f e
theorem nh_to {α β : Type} {e y : α} {f : α → β} {o : β} (h : nh_let e f = o) (hy : y = e) : f y = o := by subst hy; exact h
def nh_chk {β : Type} (b : Bool) (x : Option β) : Option β := if b = true then x else none
theorem nh_chk_some {β : Type} {b : Bool} {x : Option β} {o : β} (h : nh_chk b x = some o) : b = true ∧ x = some o := by
  unfold nh_chk at h
  split at h
  · exact ⟨by assumption, h⟩
  · cases h
def nh_in (i : Int32) (n : Nat) : Bool := decide (¬ (i < 0 ∨ n ≤ i.toNatClampNeg))
theorem nh_in_in {i : Int32} {n : Nat} (h : nh_in i n = true) : vp_in i n := (of_decide_eq_true h : ¬ (i < 0 ∨ n ≤ i.toNatClampNeg))
def nh_isB (i : Int32) : Bool := decide (i = 0 ∨ i = 1)
theorem nh_isB_nar {i : Int32} (h : nh_isB i = true) : narrow .boolean (.int i) = .int i := by
  rcases (of_decide_eq_true h : i = 0 ∨ i = 1) with h | h <;> subst h <;> rfl
theorem nh_none {β : Type} {o : β} (h : (none : Option β) = some o) : False := by cases h
def nh_b1 {α β : Type} (x : Option α) (f : α → Option β) : Option β := match x with
  | none => none
  | some a => f a
def nh_b2 {α₁ α₂ β : Type} (x : Option (α₁ × α₂)) (f : α₁ → α₂ → Option β) : Option β := match x with
  | none => none
  | some a => f a.1 a.2
def nh_b3 {α₁ α₂ α₃ β : Type} (x : Option (α₁ × α₂ × α₃)) (f : α₁ → α₂ → α₃ → Option β) : Option β := match x with
  | none => none
  | some a => f a.1 a.2.1 a.2.2
def nh_b4 {α₁ α₂ α₃ α₄ β : Type} (x : Option (α₁ × α₂ × α₃ × α₄)) (f : α₁ → α₂ → α₃ → α₄ → Option β) : Option β := match x with
  | none => none
  | some a => f a.1 a.2.1 a.2.2.1 a.2.2.2
def nh_b5 {α₁ α₂ α₃ α₄ α₅ β : Type} (x : Option (α₁ × α₂ × α₃ × α₄ × α₅)) (f : α₁ → α₂ → α₃ → α₄ → α₅ → Option β) : Option β := match x with
  | none => none
  | some a => f a.1 a.2.1 a.2.2.1 a.2.2.2.1 a.2.2.2.2
def nh_b6 {α₁ α₂ α₃ α₄ α₅ α₆ β : Type} (x : Option (α₁ × α₂ × α₃ × α₄ × α₅ × α₆)) (f : α₁ → α₂ → α₃ → α₄ → α₅ → α₆ → Option β) : Option β := match x with
  | none => none
  | some a => f a.1 a.2.1 a.2.2.1 a.2.2.2.1 a.2.2.2.2.1 a.2.2.2.2.2
def nh_b7 {α₁ α₂ α₃ α₄ α₅ α₆ α₇ β : Type} (x : Option (α₁ × α₂ × α₃ × α₄ × α₅ × α₆ × α₇)) (f : α₁ → α₂ → α₃ → α₄ → α₅ → α₆ → α₇ → Option β) : Option β := match x with
  | none => none
  | some a => f a.1 a.2.1 a.2.2.1 a.2.2.2.1 a.2.2.2.2.1 a.2.2.2.2.2.1 a.2.2.2.2.2.2
def nh_b8 {α₁ α₂ α₃ α₄ α₅ α₆ α₇ α₈ β : Type} (x : Option (α₁ × α₂ × α₃ × α₄ × α₅ × α₆ × α₇ × α₈)) (f : α₁ → α₂ → α₃ → α₄ → α₅ → α₆ → α₇ → α₈ → Option β) : Option β := match x with
  | none => none
  | some a => f a.1 a.2.1 a.2.2.1 a.2.2.2.1 a.2.2.2.2.1 a.2.2.2.2.2.1 a.2.2.2.2.2.2.1 a.2.2.2.2.2.2.2
def nh_b9 {α₁ α₂ α₃ α₄ α₅ α₆ α₇ α₈ α₉ β : Type} (x : Option (α₁ × α₂ × α₃ × α₄ × α₅ × α₆ × α₇ × α₈ × α₉)) (f : α₁ → α₂ → α₃ → α₄ → α₅ → α₆ → α₇ → α₈ → α₉ → Option β) : Option β := match x with
  | none => none
  | some a => f a.1 a.2.1 a.2.2.1 a.2.2.2.1 a.2.2.2.2.1 a.2.2.2.2.2.1 a.2.2.2.2.2.2.1 a.2.2.2.2.2.2.2.1 a.2.2.2.2.2.2.2.2
theorem nh_b1_some {α β : Type} {x : Option α} {f : α → Option β} {o : β} (h : nh_b1 x f = some o) : ∃ a, x = some a ∧ f a = some o := by
  cases x with
  | none => cases h
  | some a => exact ⟨a, rfl, h⟩
theorem nh_b2_some {α₁ α₂ β : Type} {x : Option (α₁ × α₂)} {f : α₁ → α₂ → Option β} {o : β} (h : nh_b2 x f = some o) : ∃ a b, x = some (a, b) ∧ f a b = some o := by
  cases x with
  | none => cases h
  | some a => exact ⟨_, _, rfl, h⟩
theorem nh_b3_some {α₁ α₂ α₃ β : Type} {x : Option (α₁ × α₂ × α₃)} {f : α₁ → α₂ → α₃ → Option β} {o : β} (h : nh_b3 x f = some o) : ∃ a b c, x = some (a, b, c) ∧ f a b c = some o := by
  cases x with
  | none => cases h
  | some a => exact ⟨_, _, _, rfl, h⟩
theorem nh_b4_some {α₁ α₂ α₃ α₄ β : Type} {x : Option (α₁ × α₂ × α₃ × α₄)} {f : α₁ → α₂ → α₃ → α₄ → Option β} {o : β} (h : nh_b4 x f = some o) : ∃ a b c d, x = some (a, b, c, d) ∧ f a b c d = some o := by
  cases x with
  | none => cases h
  | some a => exact ⟨_, _, _, _, rfl, h⟩
theorem nh_b5_some {α₁ α₂ α₃ α₄ α₅ β : Type} {x : Option (α₁ × α₂ × α₃ × α₄ × α₅)} {f : α₁ → α₂ → α₃ → α₄ → α₅ → Option β} {o : β} (h : nh_b5 x f = some o) : ∃ a b c d e, x = some (a, b, c, d, e) ∧ f a b c d e = some o := by
  cases x with
  | none => cases h
  | some a => exact ⟨_, _, _, _, _, rfl, h⟩
theorem nh_b6_some {α₁ α₂ α₃ α₄ α₅ α₆ β : Type} {x : Option (α₁ × α₂ × α₃ × α₄ × α₅ × α₆)} {f : α₁ → α₂ → α₃ → α₄ → α₅ → α₆ → Option β} {o : β} (h : nh_b6 x f = some o) : ∃ a b c d e g, x = some (a, b, c, d, e, g) ∧ f a b c d e g = some o := by
  cases x with
  | none => cases h
  | some a => exact ⟨_, _, _, _, _, _, rfl, h⟩
theorem nh_b7_some {α₁ α₂ α₃ α₄ α₅ α₆ α₇ β : Type} {x : Option (α₁ × α₂ × α₃ × α₄ × α₅ × α₆ × α₇)} {f : α₁ → α₂ → α₃ → α₄ → α₅ → α₆ → α₇ → Option β} {o : β} (h : nh_b7 x f = some o) : ∃ a b c d e g i, x = some (a, b, c, d, e, g, i) ∧ f a b c d e g i = some o := by
  cases x with
  | none => cases h
  | some a => exact ⟨_, _, _, _, _, _, _, rfl, h⟩
theorem nh_b8_some {α₁ α₂ α₃ α₄ α₅ α₆ α₇ α₈ β : Type} {x : Option (α₁ × α₂ × α₃ × α₄ × α₅ × α₆ × α₇ × α₈)} {f : α₁ → α₂ → α₃ → α₄ → α₅ → α₆ → α₇ → α₈ → Option β} {o : β} (h : nh_b8 x f = some o) : ∃ a b c d e g i j, x = some (a, b, c, d, e, g, i, j) ∧ f a b c d e g i j = some o := by
  cases x with
  | none => cases h
  | some a => exact ⟨_, _, _, _, _, _, _, _, rfl, h⟩
theorem nh_b9_some {α₁ α₂ α₃ α₄ α₅ α₆ α₇ α₈ α₉ β : Type} {x : Option (α₁ × α₂ × α₃ × α₄ × α₅ × α₆ × α₇ × α₈ × α₉)} {f : α₁ → α₂ → α₃ → α₄ → α₅ → α₆ → α₇ → α₈ → α₉ → Option β} {o : β} (h : nh_b9 x f = some o) : ∃ a b c d e g i j k, x = some (a, b, c, d, e, g, i, j, k) ∧ f a b c d e g i j k = some o := by
  cases x with
  | none => cases h
  | some a => exact ⟨_, _, _, _, _, _, _, _, _, rfl, h⟩
theorem nh_i1 {α : Type} {a b : α} (h : some a = some b) : a = b := Option.some.inj h
theorem nh_i2 {α β : Type} {a a' : α} {b b' : β} (h : some (a, b) = some (a', b')) : a = a' ∧ b = b' := by cases h; exact ⟨rfl, rfl⟩
theorem nh_i3 {α β γ : Type} {a a' : α} {b b' : β} {c c' : γ} (h : some (a, b, c) = some (a', b', c')) : a = a' ∧ b = b' ∧ c = c' := by cases h; exact ⟨rfl, rfl, rfl⟩
theorem nh_i4 {α β γ δ : Type} {a a' : α} {b b' : β} {c c' : γ} {d d' : δ} (h : some (a, b, c, d) = some (a', b', c', d')) : a = a' ∧ b = b' ∧ c = c' ∧ d = d' := by cases h; exact ⟨rfl, rfl, rfl, rfl⟩
theorem nh_i5 {α β γ δ ε : Type} {a a' : α} {b b' : β} {c c' : γ} {d d' : δ} {e e' : ε} (h : some (a, b, c, d, e) = some (a', b', c', d', e')) : a = a' ∧ b = b' ∧ c = c' ∧ d = d' ∧ e = e' := by cases h; exact ⟨rfl, rfl, rfl, rfl, rfl⟩
theorem nh_i6 {α β γ δ ε ζ : Type} {a a' : α} {b b' : β} {c c' : γ} {d d' : δ} {e e' : ε} {f f' : ζ} (h : some (a, b, c, d, e, f) = some (a', b', c', d', e', f')) : a = a' ∧ b = b' ∧ c = c' ∧ d = d' ∧ e = e' ∧ f = f' := by cases h; exact ⟨rfl, rfl, rfl, rfl, rfl, rfl⟩
theorem nh_i7 {α β γ δ ε ζ η : Type} {a a' : α} {b b' : β} {c c' : γ} {d d' : δ} {e e' : ε} {f f' : ζ} {g g' : η} (h : some (a, b, c, d, e, f, g) = some (a', b', c', d', e', f', g')) : a = a' ∧ b = b' ∧ c = c' ∧ d = d' ∧ e = e' ∧ f = f' ∧ g = g' := by cases h; exact ⟨rfl, rfl, rfl, rfl, rfl, rfl, rfl⟩
theorem nh_i8 {α β γ δ ε ζ η θ : Type} {a a' : α} {b b' : β} {c c' : γ} {d d' : δ} {e e' : ε} {f f' : ζ} {g g' : η} {i i' : θ} (h : some (a, b, c, d, e, f, g, i) = some (a', b', c', d', e', f', g', i')) : a = a' ∧ b = b' ∧ c = c' ∧ d = d' ∧ e = e' ∧ f = f' ∧ g = g' ∧ i = i' := by cases h; exact ⟨rfl, rfl, rfl, rfl, rfl, rfl, rfl, rfl⟩
theorem nh_i9 {α β γ δ ε ζ η θ ι : Type} {a a' : α} {b b' : β} {c c' : γ} {d d' : δ} {e e' : ε} {f f' : ζ} {g g' : η} {i i' : θ} {j j' : ι} (h : some (a, b, c, d, e, f, g, i, j) = some (a', b', c', d', e', f', g', i', j')) : a = a' ∧ b = b' ∧ c = c' ∧ d = d' ∧ e = e' ∧ f = f' ∧ g = g' ∧ i = i' ∧ j = j' := by cases h; exact ⟨rfl, rfl, rfl, rfl, rfl, rfl, rfl, rfl, rfl⟩
