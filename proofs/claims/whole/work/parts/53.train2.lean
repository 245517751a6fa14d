section
/-! training: what a week does, as numbers -/
def tU (S : pS) (k b p w : Nat) : pS := sU (sU (sU (sU S 9 18 (nI b)) 9 14 (nI p)) 9 13 (nI w)) 9 19 (nI k)
def vI (x : Option (Int32 × pS)) : Int32 := match x with
  | some q => q.1
  | none => 0
theorem vI_s (q : Int32 × pS) : vI (some q) = q.1 := rfl
noncomputable def gN (S : pS) (k b p w : Nat) : Nat := (vI (F12_lawSays (tU S k b p w) 2 27 0 9)).toNatClampNeg
noncomputable def hN (S : pS) (k b p w : Nat) : Nat := (F12_held (nI w + vI (F12_lawSays (tU S k b p w) 2 28 (-200) 200)) 0 1000).toNatClampNeg
def fU (U : pS) (k b p w : Nat) : Prop := U 9 18 = nI b ∧ U 9 14 = nI p ∧ U 9 13 = nI w ∧ U 9 19 = nI k
def fT (T : pS) (k b p w : Nat) : Prop := T 134 0 = nI b ∧ T 134 1 = nI p ∧ T 134 2 = nI w ∧ T 134 3 = nI k
theorem fU_tU (S : pS) (k b p w : Nat) : fU (tU S k b p w) k b p w := by
  unfold fU tU
  refine ⟨?_, ?_, ?_, ?_⟩
  · rw [sU_n (by omega), sU_n (by omega), sU_n (by omega), sU_s]
  · rw [sU_n (by omega), sU_n (by omega), sU_s]
  · rw [sU_n (by omega), sU_s]
  · rw [sU_s]
def tT (S : pS) (k b p w : Nat) : pS := sU (sU (sU (sU S 134 0 (nI b)) 134 1 (nI p)) 134 2 (nI w)) 134 3 (nI k)
theorem fT_tT (S : pS) (k b p w : Nat) : fT (tT S k b p w) k b p w := by
  unfold fT tT
  refine ⟨?_, ?_, ?_, ?_⟩
  · rw [sU_n (by omega), sU_n (by omega), sU_n (by omega), sU_s]
  · rw [sU_n (by omega), sU_n (by omega), sU_s]
  · rw [sU_n (by omega), sU_s]
  · rw [sU_s]
theorem tU_ne {S : pS} {k b p w k' : Nat} (h : k' ≠ 9) : tU S k b p w k' = S k' := by
  unfold tU
  rw [sU_ne h, sU_ne h, sU_ne h, sU_ne h]
theorem tT_ne {S : pS} {k b p w k' : Nat} (h : k' ≠ 134) : tT S k b p w k' = S k' := by
  unfold tT
  rw [sU_ne h, sU_ne h, sU_ne h, sU_ne h]
theorem L_tr {ns k b p w wd : Nat} {lo hi : Int32} {Sc Sm T U : pS} (hV : VR ns Sc Sm) (hT : ∀ i, i < 6 → T (22 + i) = Sc (22 + i)) (hU : U 1 = Sm 1) (h1 : fT T k b p w) (h2 : fU U k b p w) (hw : wd < 8) (hlo : lo ≤ 0) (hhi : 0 ≤ hi) :
    R2 (F3_tell T 22 (nI wd) 134 4) (F12_lawSays U 2 (nI (27 + wd)) lo hi) (fun x y => y.1 = F12_held x.1 lo hi ∧ (∀ k', k' ≠ 28 → x.2 k' = T k') ∧ ∀ k', k' ≠ 8 → y.2 k' = U k') := by
  have hl : LR 22 2 1 T U := LR_fr hV.2.2.2.2.2 (fun i _ hi => hT i (by omega)) hU
  have hn : T 22 0 = U 1 (640 + 2) := by
    have := hV.2.1 642 22 0 rfl (by decide)
    have e := hT 0 (by decide)
    rw [Nat.add_zero] at e
    rw [e, hU]; exact this
  refine L_tell (K := 22) (k := 2) (k3 := 134) (n3 := 4) (by decide) hl hn hw (fun n hn => ?_) (by decide) (by decide) (by decide) hlo hhi
  have hn : n < 4 := hn
  obtain ⟨a1, a2, a3, a4⟩ := h1
  obtain ⟨b1, b2, b3, b4⟩ := h2
  rcases (show n = 0 ∨ n = 1 ∨ n = 2 ∨ n = 3 by omega) with rfl | rfl | rfl | rfl
  · exact a1.trans b1.symm
  · exact a2.trans b2.symm
  · exact a3.trans b3.symm
  · exact a4.trans b4.symm
theorem L_trU {ns k b p w wd : Nat} {lo hi : Int32} {Sc Sm U : pS} (hV : VR ns Sc Sm) (hU : U 1 = Sm 1) (h2 : fU U k b p w) (hw : wd < 8) (hlo : lo ≤ 0) (hhi : 0 ≤ hi) :
    ∃ U', F12_lawSays U 2 (nI (27 + wd)) lo hi = some (vI (F12_lawSays (tU Sm k b p w) 2 (nI (27 + wd)) lo hi), U') ∧ ∀ k', k' ≠ 8 → U' k' = U k' := by
  have hT : ∀ i, i < 6 → tT Sc k b p w (22 + i) = Sc (22 + i) := fun i hi => tT_ne (by omega)
  obtain ⟨⟨v, T'⟩, ⟨v', U'⟩, e1, e2, e3, -, e5⟩ := L_tr hV hT hU (fT_tT Sc k b p w) h2 hw hlo hhi
  obtain ⟨⟨u, T2⟩, ⟨u', U2⟩, d1, d2, d3, -, d5⟩ := L_tr hV hT (tU_ne (by decide)) (fT_tT Sc k b p w) (fU_tU Sm k b p w) hw hlo hhi
  rw [e1] at d1
  cases d1
  simp only at e3 d3
  subst e3; subst d3
  rw [d2, vI_s]
  exact ⟨U', e2, e5⟩
theorem L_trT {ns k b p w wd : Nat} {lo hi : Int32} {Sc Sm T : pS} (hV : VR ns Sc Sm) (hT : ∀ i, i < 6 → T (22 + i) = Sc (22 + i)) (h1 : fT T k b p w) (hw : wd < 8) (hlo : lo ≤ 0) (hhi : 0 ≤ hi) :
    ∃ v T', F3_tell T 22 (nI wd) 134 4 = some (v, T') ∧ F11_hold v lo hi = vI (F12_lawSays (tU Sm k b p w) 2 (nI (27 + wd)) lo hi) ∧ ∀ k', k' ≠ 28 → T' k' = T k' := by
  obtain ⟨⟨u, T2⟩, ⟨u', U2⟩, d1, d2, d3, d4, -⟩ := L_tr hV hT (tU_ne (by decide)) h1 (fU_tU Sm k b p w) hw hlo hhi
  simp only at d3
  subst d3
  rw [d2, vI_s]
  exact ⟨u, T2, d1, hol (Int32.le_trans hlo hhi), d4⟩
theorem isN_c {x : Int32} {n : Nat} (h : isN x n) (hn : n < 2 ^ 31) : x = nI x.toNatClampNeg ∧ x.toNatClampNeg < n := by
  obtain ⟨i, hi, rfl⟩ := h
  rw [nI_clamp (by omega)]
  exact ⟨rfl, hi⟩
theorem gN_e {ns k b p w : Nat} {Sc Sm : pS} (hV : VR ns Sc Sm) : vI (F12_lawSays (tU Sm k b p w) 2 27 0 9) = nI (gN Sm k b p w) ∧ gN Sm k b p w < 10 := by
  obtain ⟨⟨u, T2⟩, ⟨u', U2⟩, d1, d2, d3, -, -⟩ := L_tr (k := k) (b := b) (p := p) (w := w) (wd := 0) (lo := 0) (hi := 9) hV (T := tT Sc k b p w) (fun i hi => tT_ne (by omega)) (tU_ne (by decide)) (fT_tT Sc k b p w) (fU_tU Sm k b p w) (by decide) (by decide) (by decide)
  have d2' : F12_lawSays (tU Sm k b p w) 2 27 0 9 = some (u', U2) := d2
  simp only at d3
  unfold gN
  rw [d2', vI_s]
  simp only
  rw [d3]
  exact isN_c (held_N (n := 9) rfl (by decide)) (by decide)
theorem hN_e {k b p w : Nat} {Sm : pS} : F12_held (nI w + vI (F12_lawSays (tU Sm k b p w) 2 28 (-200) 200)) 0 1000 = nI (hN Sm k b p w) ∧ hN Sm k b p w < 1001 := by
  unfold hN
  exact isN_c (held_N (n := 1000) rfl (by decide)) (by decide)
/-- the reference's row of what can be reached: 1001 times POWER and WEAR -/
noncomputable def nx (S : pS) (k b x : Nat) : Nat := 1001 * min 99 (x / 1001 + gN S k b (x / 1001) (x % 1001)) + hN S k b (x / 1001) (x % 1001)
theorem nx_d {S : pS} {k b x : Nat} : nx S k b x < 100100 ∧ nx S k b x / 1001 = min 99 (x / 1001 + gN S k b (x / 1001) (x % 1001)) ∧ nx S k b x % 1001 = hN S k b (x / 1001) (x % 1001) := by
  have h := (hN_e (k := k) (b := b) (p := x / 1001) (w := x % 1001) (Sm := S)).2
  unfold nx
  have hm : min 99 (x / 1001 + gN S k b (x / 1001) (x % 1001)) ≤ 99 := Nat.min_le_left _ _
  generalize min 99 (x / 1001 + gN S k b (x / 1001) (x % 1001)) = m at *
  generalize hN S k b (x / 1001) (x % 1001) = h' at *
  refine ⟨?_, ?_, ?_⟩ <;> omega
def RS (S : pS) (most x0 c : Nat) : Nat → Nat → Prop
  | 0, y => y = x0
  | k + 1, y => ∃ x b, RS S most x0 c k x ∧ b < 4 ∧ (k = 0 → b = c) ∧ y = nx S k b x ∧ y % 1001 ≤ most
theorem RS_lt {S : pS} {most x0 c : Nat} (h0 : x0 < 100100) : ∀ k y, RS S most x0 c k y → y < 100100 := by
  intro k
  cases k with
  | zero => intro y h; unfold RS at h; omega
  | succ k =>
    intro y h
    unfold RS at h
    obtain ⟨x, b, -, -, -, e, -⟩ := h
    rw [e]; exact nx_d.1
/-- the greatest POWER behind them, and the least first by which it is reached -/
def isBest (R : Nat → Nat → Prop) (best first : Int32) : Prop :=
  (best = -1 ∧ first = -1 ∧ ∀ c, c < 4 → ∀ x, ¬ R c x) ∨ ∃ p c, p < 100 ∧ c < 4 ∧ best = nI p ∧ first = nI c ∧ (∃ x, R c x ∧ x / 1001 = p) ∧ (∀ c', c' < 4 → ∀ x, R c' x → x / 1001 ≤ p) ∧ ∀ c', c' < c → ∀ x, R c' x → x / 1001 ≠ p
theorem isBest_u {R : Nat → Nat → Prop} {b f b' f' : Int32} (h : isBest R b f) (h' : isBest R b' f') : b = b' ∧ f = f' := by
  rcases h with ⟨h1, h2, h3⟩ | ⟨p, c, hp, hc, h1, h2, ⟨x, h3, h4⟩, h5, h6⟩
  · rcases h' with ⟨g1, g2, g3⟩ | ⟨p', c', hp', hc', g1, g2, ⟨x', g3, g4⟩, g5, g6⟩
    · exact ⟨h1.trans g1.symm, h2.trans g2.symm⟩
    · exact absurd g3 (h3 c' hc' x')
  · rcases h' with ⟨g1, g2, g3⟩ | ⟨p', c', hp', hc', g1, g2, ⟨x', g3, g4⟩, g5, g6⟩
    · exact absurd h3 (g3 c hc x)
    · have e : p = p' := by
        have a1 := h5 c' hc' x' g3
        have a2 := g5 c hc x h3
        omega
      subst e
      have e : c = c' := by
        rcases Nat.lt_trichotomy c c' with q | q | q
        · exact absurd h4 (g6 c q x h3)
        · exact q
        · exact absurd g4 (h6 c' q x' g3)
      subst e
      exact ⟨h1.trans g1.symm, h2.trans g2.symm⟩
theorem pig : ∀ (N m : Nat) (f : Nat → Nat), (∀ i, i < m → f i < N) → (∀ i j, i < m → j < m → f i = f j → i = j) → m ≤ N := by
  intro N
  induction N with
  | zero =>
    intro m f h _
    cases m with
    | zero => exact Nat.le_refl _
    | succ m => exact absurd (h 0 (Nat.succ_pos _)) (Nat.not_lt_zero _)
  | succ N ih =>
    intro m f h hj
    by_cases hx : ∃ i, i < m ∧ f i = N
    · obtain ⟨i0, h0, e0⟩ := hx
      obtain ⟨m', rfl⟩ : ∃ m', m = m' + 1 := ⟨m - 1, by omega⟩
      refine Nat.succ_le_succ (ih m' (fun j => if j < i0 then f j else f (j + 1)) ?_ ?_)
      · intro i hi
        show (if i < i0 then f i else f (i + 1)) < N
        split
        · have a := h i (by omega)
          have b : f i ≠ N := fun q => by have := hj i i0 (by omega) h0 (by rw [q, e0]); omega
          omega
        · have a := h (i + 1) (by omega)
          have b : f (i + 1) ≠ N := fun q => by have := hj (i + 1) i0 (by omega) h0 (by rw [q, e0]); omega
          omega
      · intro i j hi hj' e
        split at e <;> split at e
        · exact hj _ _ (by omega) (by omega) e
        · have := hj _ _ (by omega) (by omega) e; omega
        · have := hj _ _ (by omega) (by omega) e; omega
        · have := hj _ _ (by omega) (by omega) e; omega
    · have := ih m f (fun i hi => by
        have a := h i hi
        have b : f i ≠ N := fun q => hx ⟨i, hi, q⟩
        omega) hj
      omega
end
