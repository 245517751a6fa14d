section
/-! training: the reference's answer -/
def isMost (R : Nat → Prop) (v : Int32) : Prop := (v = -1 ∧ ∀ x, ¬ R x) ∨ ∃ p, p < 100 ∧ v = nI p ∧ (∃ x, R x ∧ x / 1001 = p) ∧ ∀ x, R x → x / 1001 ≤ p
def fTr (U U' : pS) : Prop := ∀ k', k' ≠ 8 → k' ≠ 9 → k' ≠ 11 → k' ≠ 12 → k' ≠ 13 → U' k' = U k'
theorem greN {a b : Nat} (ha : a < 2 ^ 31) (hb : b < 2 ^ 31) : F12_greater (nI a) (nI b) = nI (max a b) := by
  rw [gre]
  unfold jmax
  by_cases h : a < b
  · rw [if_pos (nI_lt h hb), Nat.max_eq_right (by omega)]
  · rw [if_neg (nI_nlt (by omega) ha), Nat.max_eq_left (by omega)]
theorem L_trained {ns t p0 w0 weeks c most : Nat} {Sc Sm U : pS} (hV : VR ns Sc Sm) (ht : t < 8) (e0 : Sm 1 (4 + 7 * t) = nI p0) (e1 : Sm 1 (5 + 7 * t) = nI w0) (hp : p0 < 100) (hw : w0 < 1001) (hwk : 1 ≤ weeks) (hwk2 : weeks ≤ 12) (hc : c < 4) (hmo : most ≤ 1000) (hU : U 1 = Sm 1) (hm : ∀ i, i < 100100 → U 13 i = 0) :
    Ok (F12_trained U (nI t) (nI weeks) (nI most) (nI c)) (fun q => isMost (RS Sm most (1001 * p0 + w0) c weeks) q.1 ∧ (∀ i, i < 100100 → q.2 13 i = 0) ∧ fTr U q.2) := by
  unfold F12_trained
  simp only [bL_d]
  rw [own0 _ ht, bB_s, own1 _ ht, bB_s, hU, e0, e1, show (1001 : Int32) = nI 1001 from rfl, pk_mul, nI_add]
  have hx0 : 1001 * p0 + w0 < 100100 := by omega
  have t1 := L_trains (ns := ns) (n := 1) (k := 0) (lo := c) (nb := 1) (most := most) (rx := fun _ => 1001 * p0 + w0) (Sc := Sc) (Sm := Sm) (U := sU U 11 0 (nI (1001 * p0 + w0))) hV (by rw [sU_ne (by decide)]; exact hU) (by decide) (by omega) (by decide) hmo (fun i hi => by
    have : i = 0 := by omega
    subst this
    exact ⟨sU_s _ _ _ _, hx0⟩) (fun i hi => by rw [sU_ne (by decide)]; exact hm i hi)
  rw [show c + 1 - 1 = c by omega] at t1
  refine ok_B2 (P := fun v T => ∃ (m : Nat) (ry : Nat → Nat), v = nI m ∧ m ≤ 100100 ∧ (∀ i, i < m → T 11 i = nI (ry i) ∧ ry i < 100100) ∧ (∀ y, (∃ i, i < m ∧ ry i = y) ↔ RS Sm most (1001 * p0 + w0) c 1 y) ∧ (∀ i, i < 100100 → T 13 i = 0) ∧ fTr U T) (ok_m t1 ?_) ?_
  · rintro ⟨v, T⟩ ⟨m, ry, a1, a2, a3, a4, a5, a6⟩
    refine ⟨m, ry, a1, a2, a3, fun y => (a4 y).trans ?_, a5, fun k' b1 b2 b3 b4 b5 => ?_⟩
    · constructor
      · rintro ⟨i, b, -, q1, q2, q3, q4⟩
        exact ⟨1001 * p0 + w0, b, rfl, by omega, fun _ => by omega, q3, q4⟩
      · rintro ⟨x, b, q1, q2, q3, q4, q5⟩
        have q1 : x = 1001 * p0 + w0 := q1
        have := q3 rfl
        exact ⟨0, b, by omega, by omega, by omega, by rw [q4, q1], q5⟩
    · have e := a6 k' b1 b2 b3 b4 b5
      exact e.trans (sU_ne b3)
  · rintro v T ⟨m, ry, rfl, a2, a3, a4, a5, a6⟩
    refine ok_B (P := fun (z : Int32 × pS) => ∃ (m : Nat) (ry : Nat → Nat), z.1 = nI m ∧ m ≤ 100100 ∧ (∀ i, i < m → z.2 11 i = nI (ry i) ∧ ry i < 100100) ∧ (∀ y, (∃ i, i < m ∧ ry i = y) ↔ RS Sm most (1001 * p0 + w0) c weeks y) ∧ (∀ i, i < 100100 → z.2 13 i = 0) ∧ fTr U z.2) (ok_P (weeks - 1) (fun i s => ∃ (m : Nat) (ry : Nat → Nat) (T : pS), s = (nI m, nI (i + 1), T) ∧ m ≤ 100100 ∧ (∀ i, i < m → T 11 i = nI (ry i) ∧ ry i < 100100) ∧ (∀ y, (∃ i, i < m ∧ ry i = y) ↔ RS Sm most (1001 * p0 + w0) c (i + 1) y) ∧ (∀ i, i < 100100 → T 13 i = 0) ∧ fTr U T) ?_ ?_ ?_) ?_
    · exact ⟨m, ry, T, rfl, a2, a3, a4, a5, a6⟩
    · rintro i s hi ⟨m, ry, T, rfl, a2, a3, a4, a5, a6⟩
      simp only [u3_d]
      rw [if_neg (nI_ge (by omega) (by omega))]
      have t2 := L_trains (ns := ns) (n := m) (k := i + 1) (lo := 0) (nb := 4) (most := most) (rx := ry) (Sc := Sc) (Sm := Sm) (U := T) hV (by rw [a6 1 (by decide) (by decide) (by decide) (by decide) (by decide)]; exact hU) a2 (by decide) (by decide) hmo a3 a5
      obtain ⟨⟨v', T'⟩, e, m', ry', b1, b2, b3, b4, b5, b6⟩ := t2
      have e' : F12_trains T (nI m) (nI (i + 1)) 0 3 (nI most) = some (v', T') := e
      simp only at b1 b3 b5 b6
      subst b1
      rw [e', bB2_s, nI_1]
      refine ok_s ⟨m', ry', T', rfl, b2, b3, fun y => (b4 y).trans ?_, b5, fun k' c1 c2 c3 c4 c5 => (b6 k' c1 c2 c3 c4 c5).trans (a6 k' c1 c2 c3 c4 c5)⟩
      constructor
      · rintro ⟨j, b, q1, -, q2, q3, q4⟩
        exact ⟨ry j, b, (a4 _).mp ⟨j, q1, rfl⟩, by omega, fun q => absurd q (by omega), q3, q4⟩
      · rintro ⟨x, b, q1, q2, -, q3, q4⟩
        obtain ⟨j, q5, q6⟩ := (a4 x).mpr q1
        exact ⟨j, b, q5, by omega, by omega, by rw [q6]; exact q3, q4⟩
    · rintro s ⟨m, ry, T, rfl, a2, a3, a4, a5, a6⟩
      simp only [u3_d]
      rw [if_pos (nI_le (by omega) (by omega))]
      rw [show weeks - 1 + 1 = weeks by omega] at a4
      exact ok_s ⟨m, ry, rfl, a2, a3, a4, a5, a6⟩
    · rintro ⟨v, T⟩ ⟨m, ry, b1, a2, a3, a4, a5, a6⟩
      simp only at b1 a3 a5 a6
      subst b1
      simp only [u2_d]
      refine ok_B (P := fun v => isMost (RS Sm most (1001 * p0 + w0) c weeks) v) (ok_P m (fun i s => ∃ v, s = (v, nI i) ∧ isMost (fun x => ∃ j, j < i ∧ ry j = x) v) ?_ ?_ ?_) ?_
      · exact ⟨-1, rfl, Or.inl ⟨rfl, fun x ⟨j, hj, _⟩ => absurd hj (Nat.not_lt_zero _)⟩⟩
      · rintro i s hi ⟨v, rfl, hv⟩
        simp only [u2_d]
        have hr := (a3 i hi).2
        rw [if_neg (nI_ge hi (by omega)), bG_N (by omega) (by decide), nI_clamp (by omega), (a3 i hi).1, pk_div (by omega) (by decide) (by decide), nI_1]
        refine ok_s ⟨_, rfl, Or.inr ?_⟩
        rcases hv with ⟨rfl, hv⟩ | ⟨p, hp', rfl, ⟨x, ⟨j, hj, hx⟩, hxp⟩, hv⟩
        · refine ⟨ry i / 1001, by omega, ?_, ⟨ry i, ⟨i, by omega, rfl⟩, rfl⟩, ?_⟩
          · rw [gre]
            unfold jmax
            rw [if_pos (show (-1 : Int32) < nI (ry i / 1001) from Int32.lt_of_lt_of_le (by decide) (nI_pos' (by omega)))]
          · rintro x ⟨j, hj, rfl⟩
            by_cases q : j = i
            · rw [q]; exact Nat.le_refl _
            · exact absurd ⟨j, by omega, rfl⟩ (hv (ry j))
        · refine ⟨max p (ry i / 1001), by omega, greN (by omega) (by omega), ?_, ?_⟩
          · by_cases q : p < ry i / 1001
            · exact ⟨ry i, ⟨i, by omega, rfl⟩, by omega⟩
            · exact ⟨x, ⟨j, by omega, hx⟩, by omega⟩
          · rintro x ⟨j, hj, rfl⟩
            by_cases q : j = i
            · rw [q]; omega
            · have := hv (ry j) ⟨j, by omega, rfl⟩
              omega
      · rintro s ⟨v, rfl, hv⟩
        simp only [u2_d]
        rw [if_pos (nI_le (Nat.le_refl _) (by omega))]
        refine ok_s ?_
        have e : (fun x => ∃ j, j < m ∧ ry j = x) = RS Sm most (1001 * p0 + w0) c weeks := funext fun y => propext (a4 y)
        rw [e] at hv
        exact hv
      · intro v hv
        rw [u1_d]
        exact ok_s ⟨hv, a5, a6⟩
theorem L_trainM {ns t p0 w0 weeks most : Nat} {a4 : Int32} {Sc Sm : pS} (hV : VR ns Sc Sm) (ht : t < 8) (e0 : Sm 1 (4 + 7 * t) = nI p0) (e1 : Sm 1 (5 + 7 * t) = nI w0) (hp : p0 < 100) (hw : w0 < 1001) (hwk : 1 ≤ weeks) (hwk2 : weeks ≤ 12) (hmo : most ≤ 1000) (hm : ∀ i, i < 100100 → Sm 13 i = 0) (h1 : F12_isThrower Sm (nI t) = 1) (h2 : F12_isIn (nI weeks) 1 12 = 1) (h3 : F12_isIn (nI most) 0 1000 = 1) (h4 : F12_isIn a4 0 1 = 1) :
    Ok (F12_train Sm (nI t) (nI weeks) (nI most) a4) (fun q => ∃ b f, isBest (fun c => RS Sm most (1001 * p0 + w0) c weeks) b f ∧ q.1 = (if a4 = 0 then b else f) ∧ (∀ i, i < 100100 → q.2 13 i = 0) ∧ fTr Sm q.2) := by
  unfold F12_train
  rw [h1, if_neg n10, h2, if_neg n10, h3, if_neg n10, h4, if_neg n10]
  simp only [bL_d]
  refine ok_B (P := fun (z : Int32 × Int32 × pS) => isBest (fun c => RS Sm most (1001 * p0 + w0) c weeks) z.1 z.2.1 ∧ (∀ i, i < 100100 → z.2.2 13 i = 0) ∧ fTr Sm z.2.2) (ok_P 4 (fun i s => ∃ b f T, s = (b, f, nI i, T) ∧ isBest (fun c x => c < i ∧ RS Sm most (1001 * p0 + w0) c weeks x) b f ∧ (∀ i, i < 100100 → T 13 i = 0) ∧ fTr Sm T) ?_ ?_ ?_) ?_
  · exact ⟨-1, -1, Sm, rfl, Or.inl ⟨rfl, rfl, fun c _ x q => absurd q.1 (Nat.not_lt_zero _)⟩, hm, fun _ _ _ _ _ _ => rfl⟩
  · rintro i s hi ⟨b, f, T, rfl, hb, hm', hf⟩
    simp only [u4_d]
    rw [if_neg (nge 4 (b := 4) rfl hi (by decide))]
    refine ok_B2 (P := fun v T' => isMost (RS Sm most (1001 * p0 + w0) i weeks) v ∧ (∀ i, i < 100100 → T' 13 i = 0) ∧ fTr Sm T') (ok_m (L_trained (c := i) hV ht e0 e1 hp hw hwk hwk2 hi hmo (hf 1 (by decide) (by decide) (by decide) (by decide) (by decide)) hm') (fun q hq => ⟨hq.1, hq.2.1, fun k' c1 c2 c3 c4 c5 => (hq.2.2 k' c1 c2 c3 c4 c5).trans (hf k' c1 c2 c3 c4 c5)⟩)) ?_
    rintro v T' ⟨hv, hm2, hf2⟩
    have key : ∃ b' f', (if b < v then some (Sum.inl (v, nI i, nI i + 1, T')) else some (Sum.inl (b, f, nI i + 1, T')) : Option ((Int32 × Int32 × Int32 × pS) ⊕ (Int32 × Int32 × pS))) = some (Sum.inl (b', f', nI (i + 1), T')) ∧ isBest (fun c x => c < i + 1 ∧ RS Sm most (1001 * p0 + w0) c weeks x) b' f' := by
      rw [nI_1]
      rcases hv with ⟨rfl, hv⟩ | ⟨p, hp', rfl, ⟨x, hx, hxp⟩, hv⟩
      · rcases hb with ⟨rfl, rfl, hb⟩ | ⟨p', c', hp', hc', rfl, rfl, ⟨x, h3, h4⟩, h5, h6⟩
        · rw [if_neg (by decide)]
          refine ⟨_, _, rfl, Or.inl ⟨rfl, rfl, fun c hc x q => ?_⟩⟩
          by_cases qc : c = i
          · rw [qc] at q; exact hv x q.2
          · exact hb c hc x ⟨by omega, q.2⟩
        · rw [if_neg (Int32.not_lt.mpr (Int32.le_trans (by decide) (nI_pos' (by omega))))]
          refine ⟨_, _, rfl, Or.inr ⟨p', c', hp', hc', rfl, rfl, ⟨x, ⟨by omega, h3.2⟩, h4⟩, fun c hc x q => ?_, fun c hc x q => ?_⟩⟩
          · by_cases qc : c = i
            · rw [qc] at q; exact absurd q.2 (hv x)
            · exact h5 c hc x ⟨by omega, q.2⟩
          · exact h6 c hc x ⟨by omega, q.2⟩
      · rcases hb with ⟨rfl, rfl, hb⟩ | ⟨p', c', hp2, hc', rfl, rfl, ⟨x', h3, h4⟩, h5, h6⟩
        · rw [if_pos (Int32.lt_of_lt_of_le (by decide) (nI_pos' (by omega)))]
          refine ⟨_, _, rfl, Or.inr ⟨p, i, hp', hi, rfl, rfl, ⟨x, ⟨by omega, hx⟩, hxp⟩, fun c hc y q => ?_, fun c hc y q => ?_⟩⟩
          · by_cases qc : c = i
            · rw [qc] at q; exact hv y q.2
            · exact absurd ⟨by omega, q.2⟩ (hb c hc y)
          · exact absurd ⟨hc, q.2⟩ (hb c (by omega) y)
        · by_cases hlt : p' < p
          · rw [if_pos (nI_lt hlt (by omega))]
            refine ⟨_, _, rfl, Or.inr ⟨p, i, hp', hi, rfl, rfl, ⟨x, ⟨by omega, hx⟩, hxp⟩, fun c hc y q => ?_, fun c hc y q => ?_⟩⟩
            · by_cases qc : c = i
              · rw [qc] at q; exact hv y q.2
              · have := h5 c hc y ⟨by omega, q.2⟩
                omega
            · have := h5 c (by omega) y ⟨hc, q.2⟩
              omega
          · rw [if_neg (nI_nlt (by omega) (by omega))]
            refine ⟨_, _, rfl, Or.inr ⟨p', c', hp2, hc', rfl, rfl, ⟨x', ⟨by omega, h3.2⟩, h4⟩, fun c hc y q => ?_, fun c hc y q => ?_⟩⟩
            · by_cases qc : c = i
              · rw [qc] at q
                have := hv y q.2
                omega
              · exact h5 c hc y ⟨by omega, q.2⟩
            · have hci := h3.1
              exact h6 c hc y ⟨by omega, q.2⟩
    obtain ⟨b', f', k1, k2⟩ := key
    have k1' : (if b < v then some (Sum.inl (v, nI i, nI i + 1, T')) else some (Sum.inl (b, f, nI i + 1, T')) : Option ((Int32 × Int32 × Int32 × pS) ⊕ (Int32 × Int32 × pS))) = some (Sum.inl (b', f', nI (i + 1), T')) := k1
    exact ⟨_, k1', b', f', T', rfl, k2, hm2, hf2⟩
  · rintro s ⟨b, f, T, rfl, hb, hm', hf⟩
    simp only [u4_d]
    rw [if_pos (show (4 : Int32) ≤ nI 4 from nI_le (Nat.le_refl _) (by decide))]
    refine ok_s ⟨?_, hm', hf⟩
    rcases hb with ⟨rfl, rfl, hb⟩ | ⟨p', c', hp', hc', rfl, rfl, ⟨x, h3, h4⟩, h5, h6⟩
    · exact Or.inl ⟨rfl, rfl, fun c hc x q => hb c hc x ⟨hc, q⟩⟩
    · exact Or.inr ⟨p', c', hp', hc', rfl, rfl, ⟨x, h3.2, h4⟩, fun c hc x q => h5 c hc x ⟨hc, q⟩, fun c hc x q => h6 c hc x ⟨by omega, q⟩⟩
  · rintro ⟨b, f, T⟩ ⟨hb, hm', hf⟩
    simp only [u3_d]
    by_cases q : a4 = 0
    · rw [if_pos q]
      exact ok_s ⟨b, f, hb, by rw [if_pos q], hm', hf⟩
    · rw [if_neg q]
      exact ok_s ⟨b, f, hb, by rw [if_neg q], hm', hf⟩
end
