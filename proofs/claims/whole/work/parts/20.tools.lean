/-! tools of the pure layer -/
theorem lit_I (n : Nat) : (OfNat.ofNat n : Int32) = nI n := Eq.trans (Eq.refl (nI n)) (Eq.refl (nI n))
theorem n10 : ¬ (1 : Int32) = 0 := by decide
def Ok {α : Type} (x : Option α) (Q : α → Prop) : Prop := ∃ a, x = some a ∧ Q a
def R2 {α β : Type} (x : Option α) (y : Option β) (Q : α → β → Prop) : Prop := ∃ a b, x = some a ∧ y = some b ∧ Q a b
def sumR {α β γ δ : Type} (A : α → β → Prop) (B : γ → δ → Prop) : α ⊕ γ → β ⊕ δ → Prop
  | .inl a, .inl b => A a b
  | .inr a, .inr b => B a b
  | _, _ => False
theorem bB_s {α β : Type _} (a : α) (f : α → Option β) : bB (some a) f = f a := rfl
theorem bB2_s {α σ β : Type _} (a : α) (s : σ) (f : α → σ → Option β) : bB2 (some (a, s)) f = f a s := rfl
theorem bT2_s {α σ β : Type _} (a : α) (s : σ) (f : α → σ → β) : bT2 (a, s) f = f a s := rfl
theorem bL_d {α β : Sort _} (v : α) (f : α → β) : bL v f = f v := rfl
theorem bO_0 {β : Type _} (a : β) (f : Nat → β) : bO none a f = a := rfl
theorem bO_1 {β : Type _} (k : Nat) (a : β) (f : Nat → β) : bO (some k) a f = f k := rfl
theorem u1_d {α β : Sort _} (f : α → β) (a : α) : u1 f a = f a := rfl
theorem u2_d {α₁ α₂ β : Type _} (f : α₁ → α₂ → β) (a : α₁) (b : α₂) : u2 f (a, b) = f a b := rfl
theorem u3_d {α₁ α₂ α₃ β : Type _} (f : α₁ → α₂ → α₃ → β) (a : α₁) (b : α₂) (c : α₃) : u3 f (a, b, c) = f a b c := rfl
theorem u4_d {α₁ α₂ α₃ α₄ β : Type _} (f : α₁ → α₂ → α₃ → α₄ → β) (a : α₁) (b : α₂) (c : α₃) (d : α₄) : u4 f (a, b, c, d) = f a b c d := rfl
theorem u6_d {α₁ α₂ α₃ α₄ α₅ α₆ β : Type _} (f : α₁ → α₂ → α₃ → α₄ → α₅ → α₆ → β) (a : α₁) (b : α₂) (c : α₃) (d : α₄) (e : α₅) (g : α₆) : u6 f (a, b, c, d, e, g) = f a b c d e g := rfl
section TL
variable {α β γ δ σ ρ τ υ : Type}
theorem ok_s {a : α} {Q : α → Prop} (h : Q a) : Ok (some a) Q := ⟨a, rfl, h⟩
theorem ok_e {x : Option α} {a : α} {Q : α → Prop} (e : x = some a) (h : Q a) : Ok x Q := ⟨a, e, h⟩
theorem ok_m {x : Option α} {P Q : α → Prop} (h : Ok x P) (hq : ∀ a, P a → Q a) : Ok x Q := by
  obtain ⟨a, e, hp⟩ := h
  exact ⟨a, e, hq a hp⟩
theorem ok_B {x : Option α} {f : α → Option β} {P : α → Prop} {Q : β → Prop} (h : Ok x P) (k : ∀ a, P a → Ok (f a) Q) : Ok (bB x f) Q := by
  obtain ⟨a, e, hp⟩ := h
  rw [e, bB_s]
  exact k a hp
theorem ok_B2 {x : Option (α × σ)} {f : α → σ → Option β} {P : α → σ → Prop} {Q : β → Prop} (h : Ok x (fun q => P q.1 q.2)) (k : ∀ a s, P a s → Ok (f a s) Q) : Ok (bB2 x f) Q := by
  obtain ⟨⟨a, s⟩, e, hp⟩ := h
  rw [e, bB2_s]
  exact k a s hp
theorem ok_G {P : Prop} {x : Option α} {Q : α → Prop} (hp : P) (h : Ok x Q) : Ok (bG P x) Q := by
  rw [bG_t hp]; exact h
theorem ok_L {v : τ} {f : τ → Option α} {Q : α → Prop} (h : ∀ x, x = v → Ok (f x) Q) : Ok (bL v f) Q := h v rfl
theorem ok_if {c : Prop} [hc : Decidable c] {x y : Option α} {Q : α → Prop} (h1 : c → Ok x Q) (h2 : ¬ c → Ok y Q) : Ok (if c then x else y) Q := by
  by_cases h : c
  · rw [if_pos h]; exact h1 h
  · rw [if_neg h]; exact h2 h
theorem ok_P {b : σ → Option (σ ⊕ ρ)} {s : σ} {Q : ρ → Prop} (n : Nat) (I : Nat → σ → Prop) (h0 : I 0 s) (hs : ∀ i s, i < n → I i s → Ok (b s) (fun z => Sum.elim (I (i + 1)) Q z)) (he : ∀ s, I n s → Ok (b s) (fun z => Sum.elim (fun _ => False) Q z)) : Ok (bP b s) Q := by
  have key : ∀ k i s, i + k = n → I i s → ∃ r, bPn b (k + 1) s = some r ∧ Q r := by
    intro k
    induction k with
    | zero =>
      intro i s e h
      have e' : i = n := by omega
      subst e'
      obtain ⟨z, hz, hq⟩ := he s h
      cases z with
      | inl a => exact hq.elim
      | inr r => exact ⟨r, by simp only [bPn, hz]; rfl, hq⟩
    | succ k ih =>
      intro i s e h
      obtain ⟨z, hz, hq⟩ := hs i s (by omega) h
      cases z with
      | inl a =>
        obtain ⟨r, h1, h2⟩ := ih (i + 1) a (by omega) hq
        exact ⟨r, by rw [bPn, hz]; exact h1, h2⟩
      | inr r => exact ⟨r, by rw [bPn, hz]; rfl, hq⟩
  obtain ⟨r, h1, h2⟩ := key n 0 s (by omega) h0
  exact ⟨r, bP_of h1, h2⟩
theorem r2_s {a : α} {b : β} {Q : α → β → Prop} (h : Q a b) : R2 (some a) (some b) Q := ⟨a, b, rfl, rfl, h⟩
theorem r2_m {x : Option α} {y : Option β} {P Q : α → β → Prop} (h : R2 x y P) (hq : ∀ a b, P a b → Q a b) : R2 x y Q := by
  obtain ⟨a, b, e, e', hp⟩ := h
  exact ⟨a, b, e, e', hq a b hp⟩
theorem r2_B {x : Option α} {y : Option β} {f : α → Option γ} {g : β → Option δ} {P : α → β → Prop} {Q : γ → δ → Prop} (h : R2 x y P) (k : ∀ a b, P a b → R2 (f a) (g b) Q) : R2 (bB x f) (bB y g) Q := by
  obtain ⟨a, b, e, e', hp⟩ := h
  rw [e, e', bB_s, bB_s]
  exact k a b hp
theorem r2_B2 {x : Option (α × σ)} {y : Option (β × τ)} {f : α → σ → Option γ} {g : β → τ → Option δ} {P : α → σ → β → τ → Prop} {Q : γ → δ → Prop} (h : R2 x y (fun p q => P p.1 p.2 q.1 q.2)) (k : ∀ a s b t, P a s b t → R2 (f a s) (g b t) Q) : R2 (bB2 x f) (bB2 y g) Q := by
  obtain ⟨⟨a, s⟩, ⟨b, t⟩, e, e', hp⟩ := h
  rw [e, e', bB2_s, bB2_s]
  exact k a s b t hp
theorem r2_C {x : Option (α × σ)} {y : Option (β × τ)} {f : α → σ → Option γ} {g : β → τ → Option δ} {P : α × σ → β × τ → Prop} {Q : γ → δ → Prop} (h : R2 x y P) (k : ∀ a s b t, P (a, s) (b, t) → R2 (f a s) (g b t) Q) : R2 (bB2 x f) (bB2 y g) Q := by
  obtain ⟨⟨a, s⟩, ⟨b, t⟩, e, e', hp⟩ := h
  rw [e, e', bB2_s, bB2_s]
  exact k a s b t hp
theorem r2_CB {x : Option (α × σ)} {y : Option β} {f : α → σ → Option γ} {g : β → Option δ} {P : α × σ → β → Prop} {Q : γ → δ → Prop} (h : R2 x y P) (k : ∀ a s b, P (a, s) b → R2 (f a s) (g b) Q) : R2 (bB2 x f) (bB y g) Q := by
  obtain ⟨⟨a, s⟩, b, e, e', hp⟩ := h
  rw [e, e', bB2_s, bB_s]
  exact k a s b hp
theorem r2_Bl {x : Option α} {y : Option β} {f : α → Option γ} {P : α → β → Prop} {Q : γ → β → Prop} (h : R2 x y P) (k : ∀ a b, P a b → ∃ r, f a = some r ∧ Q r b) : R2 (bB x f) y Q := by
  obtain ⟨a, b, e, e', hp⟩ := h
  obtain ⟨r, h1, h2⟩ := k a b hp
  exact ⟨r, b, by rw [e, bB_s]; exact h1, e', h2⟩
theorem r2_lB {x : Option α} {y : Option β} {f : α → Option γ} {P : α → Prop} {Q : γ → β → Prop} (h : Ok x P) (k : ∀ a, P a → R2 (f a) y Q) : R2 (bB x f) y Q := by
  obtain ⟨a, e, hp⟩ := h
  rw [e, bB_s]
  exact k a hp
theorem r2_rB {x : Option α} {y : Option β} {f : β → Option γ} {P : β → Prop} {Q : α → γ → Prop} (h : Ok y P) (k : ∀ a, P a → R2 x (f a) Q) : R2 x (bB y f) Q := by
  obtain ⟨a, e, hp⟩ := h
  rw [e, bB_s]
  exact k a hp
theorem r2_P {b : σ → Option (σ ⊕ ρ)} {s : σ} {b' : τ → Option (τ ⊕ υ)} {s' : τ} {Q : ρ → υ → Prop} (n : Nat) (I : Nat → σ → τ → Prop) (h0 : I 0 s s') (hs : ∀ i s s', i < n → I i s s' → R2 (b s) (b' s') (sumR (I (i + 1)) Q)) (he : ∀ s s', I n s s' → R2 (b s) (b' s') (sumR (fun _ _ => False) Q)) : R2 (bP b s) (bP b' s') Q := by
  have key : ∀ k i s s', i + k = n → I i s s' → ∃ r r', bPn b (k + 1) s = some r ∧ bPn b' (k + 1) s' = some r' ∧ Q r r' := by
    intro k
    induction k with
    | zero =>
      intro i s s' e h
      have e' : i = n := by omega
      subst e'
      obtain ⟨z, z', hz, hz', hq⟩ := he s s' h
      cases z with
      | inl a => cases z' with
        | inl a' => exact hq.elim
        | inr a' => exact hq.elim
      | inr r => cases z' with
        | inl a' => exact hq.elim
        | inr r' => exact ⟨r, r', by simp only [bPn, hz]; rfl, by simp only [bPn, hz']; rfl, hq⟩
    | succ k ih =>
      intro i s s' e h
      obtain ⟨z, z', hz, hz', hq⟩ := hs i s s' (by omega) h
      cases z with
      | inl a => cases z' with
        | inl a' =>
          obtain ⟨r, r', h1, h1', h2⟩ := ih (i + 1) a a' (by omega) hq
          exact ⟨r, r', by rw [bPn, hz]; exact h1, by rw [bPn, hz']; exact h1', h2⟩
        | inr a' => exact hq.elim
      | inr r => cases z' with
        | inl a' => exact hq.elim
        | inr r' => exact ⟨r, r', by rw [bPn, hz]; rfl, by rw [bPn, hz']; rfl, hq⟩
  obtain ⟨r, r', h1, h1', h2⟩ := key n 0 s s' (by omega) h0
  exact ⟨r, r', bP_of h1, bP_of h1', h2⟩
theorem bP_r {b : σ → Option (σ ⊕ ρ)} {s : σ} {r : ρ} (h : b s = some (.inr r)) : bP b s = some r := bP_of (n := 1) (by rw [bPn, h]; rfl)
theorem bP_u {b : σ → Option (σ ⊕ ρ)} {s t : σ} (h : b s = some (.inl t)) : bP b s = bP b t := by
  apply Option.ext
  intro r
  constructor
  · intro h1
    obtain ⟨n, hn⟩ := bP_e h1
    cases n with
    | zero => exact bPn_0 hn
    | succ n =>
      obtain ⟨q, h2, h3⟩ := bPn_e hn
      rw [h] at h2
      cases h2
      exact bP_of h3
  · intro h1
    obtain ⟨n, hn⟩ := bP_e h1
    exact bP_of (n := n + 1) (by rw [bPn, h]; exact hn)
theorem ok_M {b : σ → Option (σ ⊕ ρ)} {s : σ} {Q : ρ → Prop} (I : σ → Prop) (μ : σ → Nat) (h0 : I s) (hs : ∀ s, I s → Ok (b s) (fun z => Sum.elim (fun s' => I s' ∧ μ s' < μ s) Q z)) : Ok (bP b s) Q := by
  have key : ∀ n s, μ s < n → I s → Ok (bP b s) Q := by
    intro n
    induction n with
    | zero => intro s h; omega
    | succ n ih =>
      intro s h hi
      obtain ⟨z, hz, hq⟩ := hs s hi
      cases z with
      | inl t =>
        rw [bP_u hz]
        exact ih t (by have := hq.2; omega) hq.1
      | inr r => exact ⟨r, bP_r hz, hq⟩
  exact key (μ s + 1) s (Nat.lt_succ_self _) h0
/-- the left loop is followed; where it ends, the right one may go on by itself -/
theorem r2_Q {b : σ → Option (σ ⊕ ρ)} {s : σ} {b' : τ → Option (τ ⊕ υ)} {s' : τ} {Q : ρ → υ → Prop} (n : Nat) (I : Nat → σ → τ → Prop) (h0 : I 0 s s') (hs : ∀ i s s', i < n → I i s s' → (∃ t t', b s = some (.inl t) ∧ b' s' = some (.inl t') ∧ I (i + 1) t t') ∨ ∃ r, b s = some (.inr r) ∧ Ok (bP b' s') (Q r)) (he : ∀ s s', I n s s' → ∃ r, b s = some (.inr r) ∧ Ok (bP b' s') (Q r)) : R2 (bP b s) (bP b' s') Q := by
  have key : ∀ k i s s', i + k = n → I i s s' → R2 (bP b s) (bP b' s') Q := by
    intro k
    induction k with
    | zero =>
      intro i s s' e h
      have e' : i = n := by omega
      subst e'
      obtain ⟨r, h1, r', h2, h3⟩ := he s s' h
      exact ⟨r, r', bP_r h1, h2, h3⟩
    | succ k ih =>
      intro i s s' e h
      rcases hs i s s' (by omega) h with ⟨t, t', h1, h2, h3⟩ | ⟨r, h1, r', h2, h3⟩
      · rw [bP_u h1, bP_u h2]
        exact ih (i + 1) t t' (by omega) h3
      · exact ⟨r, r', bP_r h1, h2, h3⟩
  exact key n 0 s s' (by omega) h0
theorem r2_w {x : Option α} {y : Option β} {Q : α → β → Prop} (h : R2 y x (fun a b => Q b a)) : R2 x y Q := by
  obtain ⟨a, b, h1, h2, h3⟩ := h
  exact ⟨b, a, h2, h1, h3⟩
end TL
/-! numbers -/
def isN (x : Int32) (n : Nat) : Prop := ∃ i, i < n ∧ x = nI i
theorem nI_inj {a b : Nat} (h : nI a = nI b) (ha : a < 2 ^ 31) (hb : b < 2 ^ 31) : a = b := (nI_eq ha hb).mp h
theorem isN_iff {x : Int32} {n : Nat} (hn : n < 2 ^ 31) : isN x n ↔ ¬ x < 0 ∧ x < nI n := by
  constructor
  · rintro ⟨i, hi, rfl⟩
    exact ⟨nI_pos (by omega), nI_lt hi hn⟩
  · rintro ⟨h0, h1⟩
    obtain ⟨j, hj, rfl⟩ := nI_of h0
    exact ⟨j, (nI_ltI hj hn).mp h1, rfl⟩
theorem nlt_le {x y : Int32} : ¬ x < y ↔ y ≤ x := by rw [Int32.not_lt]
theorem isIn_d (a b c : Int32) : F12_isIn a b c = if b ≤ a ∧ a ≤ c then 1 else 0 := by
  unfold F12_isIn
  simp only [bL_d]
  by_cases h1 : a < b
  · rw [if_pos h1, if_neg (fun q => (Int32.not_le.mpr h1) q.1)]
  · rw [if_neg h1]
    by_cases h2 : c < a
    · rw [if_pos h2, if_neg (fun q => (Int32.not_le.mpr h2) q.2)]
    · rw [if_neg h2, if_pos ⟨nlt_le.mp h1, nlt_le.mp h2⟩]
theorem within_d (a b c : Int32) : F11_within a b c = if b ≤ a ∧ a ≤ c then 1 else 0 := isIn_d a b c
