variable {gG : Nat → Int32}
section
/-! a law is kept -/
def ownL (l x : Nat) : Prop := x = 640 + l ∨ (644 + 16 * l ≤ x ∧ x < 660 + 16 * l) ∨ (692 + 16 * l ≤ x ∧ x < 708 + 16 * l) ∨ (740 + 16 * l ≤ x ∧ x < 756 + 16 * l) ∨ (788 + 16 * l ≤ x ∧ x < 804 + 16 * l) ∨ (836 + 820 * l ≤ x ∧ x < 1656 + 820 * l)
theorem L_puts {l nl st : Nat} {U : pS} (hl : l < 3) (hnl : nl ≤ 16) (hst : st ≤ 400) (e13 : U 0 13 = nI nl) (e14 : U 0 14 = nI st) : Ok (F12_putsLaw U (nI l)) (fun q => q.1 = nI nl ∧ (∀ k', k' ≠ 1 → q.2 k' = U k') ∧ (∀ x, ¬ ownL l x → q.2 1 x = U 1 x) ∧ q.2 1 (640 + l) = nI nl ∧ (∀ i, i < nl → q.2 1 (644 + 16 * l + i) = U 4 (4 * i) ∧ q.2 1 (692 + 16 * l + i) = U 4 (4 * i + 1) ∧ q.2 1 (740 + 16 * l + i) = U 4 (4 * i + 2) ∧ q.2 1 (788 + 16 * l + i) = U 4 (4 * i + 3)) ∧ ∀ p, p < 2 * st → q.2 1 (836 + 820 * l + p) = U 5 p) := by
  unfold F12_putsLaw
  simp only [bL_d]
  rw [show (640 : Int32) = nI 640 from rfl, nI_add, bG_N (by omega) (by decide), nI_clamp (by omega), e13]
  have s1 : ∀ (S : pS) (j k : Nat) (v : Int32), sU S 1 j v k = if k = 1 then upd (S 1) j v else S k := fun S j k v => by
    by_cases q : k = 1
    · subst q; rw [if_pos rfl, sU_at]
    · rw [if_neg q, sU_ne q]
  refine ok_B (P := fun (T : pS) => (∀ k', k' ≠ 1 → T k' = U k') ∧ (∀ x, ¬ ownL l x → T 1 x = U 1 x) ∧ T 1 (640 + l) = nI nl ∧ (∀ i, i < nl → T 1 (644 + 16 * l + i) = U 4 (4 * i) ∧ T 1 (692 + 16 * l + i) = U 4 (4 * i + 1) ∧ T 1 (740 + 16 * l + i) = U 4 (4 * i + 2) ∧ T 1 (788 + 16 * l + i) = U 4 (4 * i + 3))) (ok_P nl (fun j s => ∃ T, s = (nI j, T) ∧ (∀ k', k' ≠ 1 → T k' = U k') ∧ (∀ x, ¬ ownL l x → T 1 x = U 1 x) ∧ T 1 (640 + l) = nI nl ∧ (∀ i, i < j → T 1 (644 + 16 * l + i) = U 4 (4 * i) ∧ T 1 (692 + 16 * l + i) = U 4 (4 * i + 1) ∧ T 1 (740 + 16 * l + i) = U 4 (4 * i + 2) ∧ T 1 (788 + 16 * l + i) = U 4 (4 * i + 3))) ?_ ?_ ?_) ?_
  · refine ⟨_, rfl, fun k' a => sU_ne a, fun x hx => ?_, sU_s _ _ _ _, fun i hi => absurd hi (Nat.not_lt_zero _)⟩
    unfold ownL at hx
    rw [sU_n (by omega)]
  · rintro j s hj ⟨T, rfl, h1, h2, h3, h4⟩
    have t13 : T 0 13 = nI nl := by rw [h1 0 (by decide)]; exact e13
    have z0 : ∀ (S : pS) (j : Nat) (v : Int32), sU S 1 j v 0 = S 0 := fun S j v => sU_ne (by decide)
    have z4 : ∀ (S : pS) (j : Nat) (v : Int32), sU S 1 j v 4 = S 4 := fun S j v => sU_ne (by decide)
    simp only [u2_d]
    rw [t13, if_neg (nI_ge hj (by omega)), show (4 : Int32) = nI 4 from rfl, show (644 : Int32) = nI 644 from rfl, show (692 : Int32) = nI 692 from rfl, show (740 : Int32) = nI 740 from rfl, show (788 : Int32) = nI 788 from rfl, show (16 : Int32) = nI 16 from rfl, show (1 : Int32) = nI 1 from rfl, show (2 : Int32) = nI 2 from rfl, show (3 : Int32) = nI 3 from rfl]
    simp only [pk_mul, nI_add]
    rw [bG_N (show 4 * j < 64 by omega) (by decide), bG_N (show 644 + 16 * l + j < 4296 by omega) (by decide), bG_N (show 4 * j + 1 < 64 by omega) (by decide), bG_N (show 692 + 16 * l + j < 4296 by omega) (by decide), bG_N (show 4 * j + 2 < 64 by omega) (by decide), bG_N (show 740 + 16 * l + j < 4296 by omega) (by decide), bG_N (show 4 * j + 3 < 64 by omega) (by decide), bG_N (show 788 + 16 * l + j < 4296 by omega) (by decide)]
    rw [nI_clamp (show 4 * j < 2 ^ 31 by omega), nI_clamp (show 644 + 16 * l + j < 2 ^ 31 by omega), nI_clamp (show 4 * j + 1 < 2 ^ 31 by omega), nI_clamp (show 692 + 16 * l + j < 2 ^ 31 by omega), nI_clamp (show 4 * j + 2 < 2 ^ 31 by omega), nI_clamp (show 740 + 16 * l + j < 2 ^ 31 by omega), nI_clamp (show 4 * j + 3 < 2 ^ 31 by omega), nI_clamp (show 788 + 16 * l + j < 2 ^ 31 by omega)]
    simp only [z4, h1 4 (by decide)]
    refine ok_s ⟨_, rfl, fun k' a => ?_, fun x hx => ?_, ?_, fun i hi => ?_⟩
    · rw [sU_ne a, sU_ne a, sU_ne a, sU_ne a]; exact h1 k' a
    · have hx' := hx
      unfold ownL at hx'
      rw [sU_n (by omega), sU_n (by omega), sU_n (by omega), sU_n (by omega)]; exact h2 x hx
    · rw [sU_n (by omega), sU_n (by omega), sU_n (by omega), sU_n (by omega)]; exact h3
    · by_cases q : i = j
      · subst q
        refine ⟨?_, ?_, ?_, ?_⟩
        · rw [sU_n (by omega), sU_n (by omega), sU_n (by omega), sU_s]
        · rw [sU_n (by omega), sU_n (by omega), sU_s]
        · rw [sU_n (by omega), sU_s]
        · rw [sU_s]
      · have := h4 i (by omega)
        refine ⟨?_, ?_, ?_, ?_⟩ <;> rw [sU_n (by omega), sU_n (by omega), sU_n (by omega), sU_n (by omega)]
        · exact this.1
        · exact this.2.1
        · exact this.2.2.1
        · exact this.2.2.2
  · rintro s ⟨T, rfl, h1, h2, h3, h4⟩
    simp only [u2_d]
    rw [h1 0 (by decide), e13, if_pos (nI_le (Nat.le_refl _) (by omega))]
    exact ok_s ⟨h1, h2, h3, h4⟩
  · rintro T0 ⟨g1, g2, g3, g4⟩
    rw [u1_d]
    refine ok_B (P := fun (T : pS) => (∀ k', k' ≠ 1 → T k' = U k') ∧ (∀ x, x < 836 ∨ ¬ ownL l x → T 1 x = T0 1 x) ∧ ∀ p, p < 2 * st → T 1 (836 + 820 * l + p) = U 5 p) (ok_P (2 * st) (fun j s => ∃ T, s = (nI j, T) ∧ (∀ k', k' ≠ 1 → T k' = U k') ∧ (∀ x, x < 836 ∨ ¬ ownL l x → T 1 x = T0 1 x) ∧ ∀ p, p < j → T 1 (836 + 820 * l + p) = U 5 p) ?_ ?_ ?_) ?_
    · exact ⟨T0, rfl, g1, fun _ _ => rfl, fun p hp => absurd hp (Nat.not_lt_zero _)⟩
    · rintro j s hj ⟨T, rfl, h1, h2, h3⟩
      have t14 : T 0 14 = nI st := by rw [h1 0 (by decide)]; exact e14
      simp only [u2_d]
      rw [t14, show (2 : Int32) = nI 2 from rfl, pk_mul, if_neg (nI_ge hj (by omega)), bG_N (show j < 820 by omega) (by decide), show (836 : Int32) = nI 836 from rfl, show (820 : Int32) = nI 820 from rfl, pk_mul, nI_add, nI_add, bG_N (by omega) (by decide), nI_clamp (by omega), nI_clamp (by omega), h1 5 (by decide), nI_1]
      refine ok_s ⟨_, rfl, fun k' a => by rw [sU_ne a]; exact h1 k' a, fun x hx => ?_, fun p hp => ?_⟩
      · have hx' := hx
        unfold ownL at hx'
        rw [sU_n (by omega)]; exact h2 x hx
      · by_cases q : p = j
        · rw [q, sU_s]
        · rw [sU_n (by omega)]; exact h3 p (by omega)
    · rintro s ⟨T, rfl, h1, h2, h3⟩
      simp only [u2_d]
      rw [h1 0 (by decide), e14, show (2 : Int32) = nI 2 from rfl, pk_mul, if_pos (nI_le (Nat.le_refl _) (by omega))]
      exact ok_s ⟨h1, h2, h3⟩
    · rintro T ⟨h1, h2, h3⟩
      rw [u1_d]
      refine ok_s ⟨by rw [h1 0 (by decide)]; exact e13, h1, fun x hx => (h2 x (Or.inr hx)).trans (g2 x hx), (h2 _ (Or.inl (by omega))).trans g3, fun i hi => ?_, h3⟩
      have := g4 i hi
      exact ⟨(h2 _ (Or.inl (by omega))).trans this.1, (h2 _ (Or.inl (by omega))).trans this.2.1, (h2 _ (Or.inl (by omega))).trans this.2.2.1, (h2 _ (Or.inl (by omega))).trans this.2.2.2⟩
theorem LR_fx {K k : Nat} {Sc Sm Sc' Sm' : pS} (h : LR K k 1 Sc Sm) (hk : k < 3) (hc : ∀ i, 0 < i → i < 6 → Sc' (K + i) = Sc (K + i)) (hm : ∀ x, ownL k x → Sm' 1 x = Sm 1 x) : LR K k 1 Sc' Sm' := by
  obtain ⟨nl, kd, nm, h1, h2, h3⟩ := h
  refine ⟨nl, kd, nm, h1, by rw [hm _ (Or.inl rfl)]; exact h2, fun i hi => ?_⟩
  obtain ⟨wd, fr, md, tt, q⟩ := h3 i hi
  refine ⟨wd, fr, md, tt, ?_⟩
  obtain ⟨a1, a2, a3, a4, a5, a6, a7, a8, a9, a10, a11, a12, a13, a14, a15⟩ := q
  have hw : ∀ x, (644 + 16 * k ≤ x ∧ x < 660 + 16 * k) ∨ (692 + 16 * k ≤ x ∧ x < 708 + 16 * k) ∨ (740 + 16 * k ≤ x ∧ x < 756 + 16 * k) ∨ (788 + 16 * k ≤ x ∧ x < 804 + 16 * k) ∨ (836 + 820 * k ≤ x ∧ x < 1656 + 820 * k) → Sm' 1 x = Sm 1 x := fun x hx => hm x (Or.inr hx)
  refine ⟨a1, by rw [hc 1 (by omega) (by omega)]; exact a2, by rw [hw _ (by omega)]; exact a3, by rw [hc 2 (by omega) (by omega)]; exact a4, by rw [hw _ (by omega)]; exact a5, by rw [hc 3 (by omega) (by omega)]; exact a6, by rw [hw _ (by omega)]; exact a7, by rw [hc 4 (by omega) (by omega)]; exact a8, by rw [hw _ (by omega)]; exact a9, a10, a11, a12, a13, a14, fun p h1 h2 => ?_⟩
  rw [hc 5 (by omega) (by omega), hw _ (by omega), hw _ (by omega)]
  exact a15 p h1 h2
theorem Rel_x {Sc Sm Sc' Sm' : pS} {ns nt nl ng rd tn nu la : Nat} (hR : (Rel gG) Sc Sm) (hW : RW 1 1 ns nt nl ng rd tn Sc' Sm') (hP : PastR nu la nt Sc' Sm') (hc : ∀ k, (k = 0 ∨ (75 ≤ k ∧ k < 132)) → Sc' k = Sc k) (hm : Sm' 0 4 = Sm 0 4 ∧ Sm' 2 = Sm 2 ∧ Sm' 13 = Sm 13) (ht1 : Sm' 0 16 = 0) (ht2 : Sc' 46 0 = 0) (hF : FaultR Sc' Sm') : (Rel gG) Sc' Sm' := by
  obtain ⟨_, _, _, _, _, _, _, _, np, -, -, h3, h4, h5, h6, h7⟩ := hR
  refine ⟨ns, nt, nl, ng, rd, tn, nu, la, 0, hW, hP, ⟨by decide, ht1, ht2, fun i hi => absurd hi (Nat.not_lt_zero _)⟩, hF, ?_, ?_, ?_⟩
  · unfold ImgR at h5 ⊢
    rw [hm.1, hc 0 (Or.inl rfl)]
    rcases h5 with q | ⟨a1, a2, ns, nt, nl, ng, rd, tn, q⟩
    · exact Or.inl q
    · exact Or.inr ⟨a1, a2, ns, nt, nl, ng, rd, tn, RW_fr q (fun k a1 a2 a3 a4 a5 => hc k (by omega)) hm.2.1⟩
  · unfold MarkR at h6 ⊢
    rw [hm.2.2]; exact h6
  · unfold AllR at h7 ⊢
    rw [hc 0 (Or.inl rfl), hc 131 (by omega)]; exact h7
theorem Rel_no {Sc Sm Sc' Sm' : pS} (hR : (Rel gG) Sc Sm) (hc : ∀ k, (k < 45 ∨ 58 < k) → Sc' k = Sc k) (hm : ∀ k, k ≠ 0 → k ≠ 4 → k ≠ 5 → k ≠ 6 → Sm' k = Sm k) (h0 : ∀ j, j < 12 → Sm' 0 j = Sm 0 j) (ht1 : Sm' 0 16 = 0) (ht2 : Sc' 46 0 = 0) (hF : FaultR Sc' Sm') : (Rel gG) Sc' Sm' := by
  obtain ⟨ns, nt, nl, ng, rd, tn, nu, la, np, h1, h2, h3, h4, h5, h6, h7⟩ := id hR
  refine Rel_x hR (RW_fr h1 (fun k a1 a2 a3 a4 a5 => hc k (by omega)) (hm 1 (by decide) (by decide) (by decide) (by decide))) (Past_m h2 h1.2.1.2.1 (h0 3 (by decide)) (hm 3 (by decide) (by decide) (by decide) (by decide)) (fun j _ => by rw [hm 1 (by decide) (by decide) (by decide) (by decide)]) (fun j _ _ => by rw [hm 1 (by decide) (by decide) (by decide) (by decide)]) (hc 65 (by omega)) (fun k a b => hc k (by omega))) (fun k hk => hc k (by omega)) ⟨h0 4 (by decide), hm 2 (by decide) (by decide) (by decide) (by decide), hm 13 (by decide) (by decide) (by decide) (by decide)⟩ ht1 ht2 hF
theorem lix_lt {r : Nat} (hr : r = 0 ∨ r = 1 ∨ r = 3) : lix r < 3 := by
  rcases hr with rfl | rfl | rfl <;> decide
theorem loc_640 {b l : Nat} (hl : l < 3) : loc b (640 + l) = some (b + 7 + 7 * l, 0) := by
  grind (splits := 60) [loc]
theorem loc_none {b x : Nat} (h : 643 ≤ x ∧ x < 3296) : loc b x = none := by
  grind (splits := 60) [loc]
/-- the worlds, one law told anew -/
theorem RW_law {r ns nt nl0 ng rd tn : Nat} {Sc Sm T U Sc' Sm' : pS} (hr : r = 0 ∨ r = 1 ∨ r = 3) (hW : RW 1 1 ns nt nl0 ng rd tn Sc Sm) (hL : LK r T U) (hc : ∀ k, k < 45 → (k < 8 + 7 * lix r ∨ 8 + 7 * lix r + 5 < k) → Sc' k = Sc k) (c0 : Sc' (8 + 7 * lix r) 0 = T 51 0) (cd : ∀ d i, (1 ≤ d ∧ d < 5 ∧ i < 16) ∨ (d = 5 ∧ i < 400) → Sc' (8 + 7 * lix r + d) i = T (51 + d) i)
    (m1 : ∀ x, ¬ ownL (lix r) x → Sm' 1 x = Sm 1 x) (m2 : Sm' 1 (640 + lix r) = U 0 13) (m3 : ∀ nl, U 0 13 = nI nl → nl ≤ 16 → ∀ i, i < nl → Sm' 1 (644 + 16 * lix r + i) = U 4 (4 * i) ∧ Sm' 1 (692 + 16 * lix r + i) = U 4 (4 * i + 1) ∧ Sm' 1 (740 + 16 * lix r + i) = U 4 (4 * i + 2) ∧ Sm' 1 (788 + 16 * lix r + i) = U 4 (4 * i + 3)) (m4 : ∀ st, U 0 14 = nI st → st ≤ 400 → ∀ p, p < 2 * st → Sm' 1 (836 + 820 * lix r + p) = U 5 p) :
    RW 1 1 ns nt nl0 ng rd tn Sc' Sm' := by
  obtain ⟨nl, st, l1, l2, l3, l4, l5, l6, l7, l8⟩ := hL
  obtain ⟨h1, h2, h3, h4, h5, h6, h7⟩ := hW
  have hl := lix_lt hr
  generalize hq : lix r = l at *
  have mlo : ∀ x, x < 640 ∨ 3296 ≤ x → Sm' 1 x = Sm 1 x := fun x hx => m1 x (by unfold ownL; omega)
  have hnt := h2.2.1
  refine ⟨?_, ?_, ?_, ?_, ?_⟩
  · intro j k i hlo
    by_cases ho : ownL l j
    · have hj : j = 640 + l := by
        by_cases q : 643 ≤ j ∧ j < 3296
        · rw [loc_none q] at hlo; cases hlo
        · unfold ownL at ho; omega
      subst hj
      rw [loc_640 hl] at hlo
      cases hlo
      rw [show 1 + 7 + 7 * l = 8 + 7 * l by omega, c0, l2, m2, l3]
    · have hin := loc_in hlo
      have hlc := lcv_loc hlo
      have hk : k ≠ 8 + 7 * l := by
        rintro rfl
        apply ho
        unfold ownL
        left
        rw [← hlc]
        unfold lcv
        rcases (show l = 0 ∨ l = 1 ∨ l = 2 by omega) with rfl | rfl | rfl <;> rfl
      unfold inL at hin
      rw [m1 j ho, hc k (by omega) (by omega)]
      exact h1 j k i hlo
  · unfold Wn at h2 ⊢
    rw [mlo 67 (by omega), mlo 68 (by omega), mlo 2 (by omega), mlo 69 (by omega), mlo 0 (by omega), mlo 1 (by omega), mlo 66 (by omega), mlo 62 (by omega), mlo 63 (by omega)]
    exact h2
  · intro t ht
    obtain ⟨q1, q2, q3, nx, no, q4, q5, q6, q7, q8⟩ := h3 t ht
    refine ⟨by rw [mlo _ (by omega)]; exact q1, by rw [mlo _ (by omega)]; exact q2, by rw [mlo _ (by omega)]; exact q3, nx, no, q4, q5, by rw [mlo _ (by omega)]; exact q6, by rw [mlo _ (by omega)]; exact q7, fun i hi => ?_⟩
    have := q8 i hi
    unfold ordOK at this ⊢
    rw [hc (1 + 29 + 2 * t) (by omega) (by omega), mlo _ (by omega), mlo _ (by omega), mlo _ (by omega), mlo _ (by omega), mlo _ (by omega)]
    exact this
  · intro i hi
    have := h4 i hi
    rw [mlo _ (by omega), mlo _ (by omega), mlo _ (by omega)]
    exact this
  · have hnew : LR (8 + 7 * l) l 1 Sc' Sm' := by
      refine ⟨nl, kS T, nS T, l1, by rw [m2]; exact l3, fun i hi => ?_⟩
      obtain ⟨wd, fr, md, tt, a1, a2, a3, a4, a5, a6, a7, a8, a9, a10, a11, a12, a13, a14⟩ := l8 i hi
      obtain ⟨p1, p2, p3, p4⟩ := m3 nl l3 l1 i hi
      rw [hq] at a3
      refine ⟨wd, fr, md, tt, a1, (cd 1 i (by omega)).trans a2, p4.trans a3, (cd 2 i (by omega)).trans a4, p1.trans a5, (cd 3 i (by omega)).trans a6, p2.trans a7, (cd 4 i (by omega)).trans a8, p3.trans a9, a10, a11, by omega, a13, a14, fun p g1 g2 => ?_⟩
      rw [cd 5 p (by omega), m4 st l5 l6 (2 * p) (by omega), show 836 + 820 * l + 2 * p + 1 = 836 + 820 * l + (2 * p + 1) by omega, m4 st l5 l6 (2 * p + 1) (by omega)]
      exact l7 p (by omega)
    have hold : ∀ l', l' < 3 → l' ≠ l → LR (1 + 7 + 7 * l') l' 1 Sc Sm → LR (1 + 7 + 7 * l') l' 1 Sc' Sm' := fun l' a b hL => LR_fx hL a (fun i hi1 hi2 => hc _ (by omega) (by omega)) (fun x hx => m1 x (by unfold ownL at hx ⊢; omega))
    rcases (show l = 0 ∨ l = 1 ∨ l = 2 by omega) with rfl | rfl | rfl
    · exact ⟨hnew, hold 1 (by decide) (by decide) h6, hold 2 (by decide) (by decide) h7⟩
    · exact ⟨hold 0 (by decide) (by decide) h5, hnew, hold 2 (by decide) (by decide) h7⟩
    · exact ⟨hold 0 (by decide) (by decide) h5, hold 1 (by decide) (by decide) h6, hnew⟩
end
