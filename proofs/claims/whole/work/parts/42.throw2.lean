/-! a throw -/
noncomputable def hurl2 (S_1 : pS) (k1 : Nat) (a2 : Int32) (a3 : Int32) (a4 : Int32) (a5 : Int32) : Option (Int32 × pS) :=
  bL (jmin (a2 + a5) (S_1 k1 0)) fun l6_2 =>
  bL (F0_ask S_1 63 k1 (S_1 1 2)) fun S_3 =>
  bL (F0_askThrow S_3 63 l6_2 a5 a3) fun S_4 =>
  bB2 (F0_tell S_4 63 15 0) fun r_5 S_6 =>
  bL (fun (t_7 : Int32) (S_8 : pS) =>
    bB2 (F10_swing S_8 1 (S_8 2 3)) fun r_9 S_10 =>
    bL (F11_hold (a3 + r_9) 0 90) fun l9_11 =>
    bB2 (F10_swing S_10 1 (S_10 2 2)) fun r_12 S_13 =>
    bL ((S_10 2 0) + r_12) fun l10_14 =>
    bB (F2_begin S_13 60 1 l6_2 l9_11 0 a4 l10_14 (S_13 2 1)) fun S_15 =>
    bB (F2_go S_15 60 8 400) fun S_16 =>
    bL (fun (t_17 : Int32) =>
      bB2 (F0_tell S_16 63 15 1) fun r_18 S_19 =>
      bL (sU S_19 k1 1 (jmin 1000 ((S_16 k1 1) + r_18))) fun S_20 =>
      bL (sU S_20 k1 3 ((S_20 k1 3) + 1)) fun S_21 =>
      bL (fun (S_22 : pS) =>
        bB (F10_write S_22 1 a4 l6_2 l9_11 l10_14 (S_22 60 1) t_17) fun S_23 =>
        bL (F10_nextTurn S_23 1) fun S_24 =>
        some (t_17, S_24)) fun j287 =>
      if t_17 = 0 then
        bL (sU S_21 k1 2 (jmax (S_21 k1 2) (S_21 60 1))) fun S_25 =>
        j287 S_25
      else
        j287 S_21) fun j224 =>
    if t_7 = 0 then
      j224 (F2_how S_16 60 (S_16 2 4))
    else
      j224 1) fun j94 =>
  bL (fun (S_28 : pS) =>
    j94 0 S_28) fun j93 =>
  if r_5 ≤ 0 then
    j93 S_6
  else
    bB2 (F10_draw S_6 1 1000) fun r_29 S_30 =>
    if r_5 ≤ r_29 then
      j93 S_30
    else
      j94 1 S_30
theorem hurl_d (S : pS) (k1 : Nat) (a2 a3 a4 a5 : Int32) : F11_hurl S k1 a2 a3 a4 a5 = bB (F4_remember S 65 1 k1) fun S_1 => hurl2 S_1 k1 a2 a3 a4 a5 := rfl
theorem fC_v {T T' : pS} {t : Nat} {x : Int32} (ht : t < 8) (h : fC T T') : fC (sU T (29 + 2 * t) 5 x) (sU T' (29 + 2 * t) 5 x) := fun k hk => by
  by_cases e : k = 29 + 2 * t
  · subst e
    rw [sU_at, sU_at, h _ hk]
  · rw [sU_ne e, sU_ne e]; exact h k hk
/-- while one throws: T, U at its begin -/
def TI (ns nt nl ng rd tn : Nat) (x : Int32) (T U T' U' : pS) : Prop := RW 1 1 ns nt nl ng rd tn (sU T' (29 + 2 * tn) 5 x) U' ∧ T' (29 + 2 * tn) 5 = T (29 + 2 * tn) 5 ∧ (∀ k, k = 0 ∨ 44 ≤ k → ¬ scC k → T' k = T k) ∧ (∀ k, k ≠ 0 → k ≠ 1 → ¬ scM k → U' k = U k) ∧ (∀ j, j < 27 → U' 0 j = U 0 j) ∧ ∀ j, (4 ≤ j ∧ j < 60 ∧ j ≠ 5 + 7 * tn ∧ j ≠ 6 + 7 * tn ∧ j ≠ 7 + 7 * tn) ∨ (60 ≤ j ∧ j < 3296) → U' 1 j = U 1 j
theorem TI_f {ns nt nl ng rd tn : Nat} {x : Int32} {T U T' U' T2 U2 : pS} (ht : tn < 8) (h : TI ns nt nl ng rd tn x T U T' U') (hc : fC T' T2) (hm : fM U' U2) : TI ns nt nl ng rd tn x T U T2 U2 := by
  obtain ⟨h1, h2, h3, h4, h5, h6⟩ := h
  have e1 : U2 1 = U' 1 := hm.1 1 (by decide) (by unfold scM; omega)
  refine ⟨RW_f h1 (fC_v ht hc) hm, by rw [hc _ (by unfold scC; omega)]; exact h2, fun k a b => (hc k b).trans (h3 k a b), fun k a b c => (hm.1 k a c).trans (h4 k a b c), fun j a => (hm.2 j a).trans (h5 j a), fun j a => by rw [e1]; exact h6 j a⟩
theorem TI_d {ns nt nl ng rd tn : Nat} {x z : Int32} {T U T' U' : pS} (h : TI ns nt nl ng rd tn x T U T' U') : TI ns nt nl ng rd tn x T U (sU T' 1 0 z) (sU U' 1 3 z) := by
  obtain ⟨h1, h2, h3, h4, h5, h6⟩ := h
  refine ⟨?_, by rw [sU_ne (by omega)]; exact h2, fun k a b => by rw [sU_ne (by omega)]; exact h3 k a b, fun k a b c => by rw [sU_ne b]; exact h4 k a b c, fun j a => by rw [sU_ne (by decide)]; exact h5 j a, fun j a => by rw [sU_n (by omega)]; exact h6 j a⟩
  rw [sU_c _ (by omega)]
  exact RW_1 (j := 3) h1 rfl (by omega) (Wn_o h1.2.1 (by omega)) (Nat.le_refl _) (Nat.le_refl _)
theorem TI_t {ns nt nl ng rd tn f : Nat} {x v : Int32} {T U T' U' : pS} (ht : tn < nt) (hf : f = 1 ∨ f = 2 ∨ f = 3) (hv1 : f = 1 → isN v 1001) (hv2 : f = 2 → isN v 475201) (h : TI ns nt nl ng rd tn x T U T' U') : TI ns nt nl ng rd tn x T U (sU T' (29 + 2 * tn) f v) (sU U' 1 (4 + f + 7 * tn) v) := by
  obtain ⟨h1, h2, h3, h4, h5, h6⟩ := h
  have hnt := h1.2.1.2.1
  refine ⟨?_, by rw [sU_n (by omega)]; exact h2, fun k a b => by rw [sU_ne (by omega)]; exact h3 k a b, fun k a b c => by rw [sU_ne b]; exact h4 k a b c, fun j a => by rw [sU_ne (by decide)]; exact h5 j a, fun j a => by rw [sU_n (by omega)]; exact h6 j a⟩
  rw [sU_cj _ (by omega)]
  exact RW_t h1 ht (by omega) (by omega) hv1 hv2
/-- what the two read of the thrower -/
theorem TI_r {ns nt nl ng rd tn : Nat} {x : Int32} {T U T' U' : pS} (ht : tn < nt) (h : TI ns nt nl ng rd tn x T U T' U') : T' (29 + 2 * tn) 0 = U' 1 (4 + 7 * tn) ∧ T' (29 + 2 * tn) 1 = U' 1 (5 + 7 * tn) ∧ T' (29 + 2 * tn) 2 = U' 1 (6 + 7 * tn) ∧ T' (29 + 2 * tn) 3 = U' 1 (7 + 7 * tn) := by
  have hE := h.1.1
  have ht8 : tn < 8 := by have := h.1.2.1.2.1; omega
  refine ⟨?_, ?_, ?_, ?_⟩
  · have := RE_t0 hE ht8; rw [sU_n (by omega)] at this; exact this
  · have := RE_t1 hE ht8; rw [sU_n (by omega)] at this; exact this
  · have := RE_t2 hE ht8; rw [sU_n (by omega)] at this; exact this
  · have := RE_t3 hE ht8; rw [sU_n (by omega)] at this; exact this
def ThrS (ns nt nl ng tn : Nat) (x : Int32) (T U T' U' : pS) : Prop := ∃ nl2 rd' tn', nl ≤ nl2 ∧ nl2 ≤ 100 ∧ RW 1 1 ns nt nl2 ng rd' tn' (sU T' (29 + 2 * tn) 5 x) U' ∧ T' (29 + 2 * tn) 5 = T (29 + 2 * tn) 5 ∧ (∀ k, k = 0 ∨ 44 ≤ k → ¬ scC k → T' k = T k) ∧ (∀ k, k ≠ 0 → k ≠ 1 → ¬ scM k → U' k = U k) ∧ (∀ j, j < 27 → U' 0 j = U 0 j) ∧ ∀ j, (4 ≤ j ∧ j < 60 ∧ j ≠ 5 + 7 * tn ∧ j ≠ 6 + 7 * tn ∧ j ≠ 7 + 7 * tn) ∨ (60 ≤ j ∧ j < 3296) → U' 1 j = U 1 j
def ThrQ (ns nt nl ng tn : Nat) (x : Int32) (T U : pS) (p q : Int32 × pS) : Prop := p.1 = q.1 ∧ ThrS ns nt nl ng tn x T U p.2 q.2
theorem jmax_N {x y : Int32} {n : Nat} (hx : isN x n) (hy : isN y n) : isN (jmax x y) n := by
  unfold jmax
  split
  · exact hy
  · exact hx
/-- the end of a throw: the book, the next one's turn -/
theorem L_thrE {ns nt nl ng rd tn b a sp : Nat} {x w how : Int32} {T U T' U' : pS} (htn : tn < nt) (hrd : rd ≤ 5) (hs : sp < ns) (hb : b ≤ 99) (ha : a ≤ 90) (h : TI ns nt nl ng rd tn x T U T' U') (hg : T' 60 1 = U' 0 30) :
    R2 (bB (F10_write T' 1 (nI sp) (nI b) (nI a) w (T' 60 1) how) fun S_23 => some (how, F10_nextTurn S_23 1)) (bB (F12_notes U' (nI tn) (nI sp) (nI b) (nI a) w how) fun S_29 => some (how, F12_nextTurn S_29)) (ThrQ ns nt nl ng tn x T U) := by
  obtain ⟨h1, h2, h3, h4, h5, h6⟩ := h
  have hnt := h1.2.1.2.1
  refine r2_B (L_write (o := 29 + 2 * tn) (by omega) h1 hs hb ha hg) ?_
  rintro T2 U2 ⟨⟨nl2, w0, w1⟩, w2, w3, w4⟩
  obtain ⟨⟨rd', tn', n0⟩, n1, n2, n3⟩ := L_next w1 htn hrd
  rw [next_v (by omega)] at n0
  have e1 : ∀ k, k ≠ 1 → F10_nextTurn T2 1 k = T2 k := fun k hk => by
    have := n1 k hk
    rw [next_v (by omega)] at this
    by_cases e : k = 29 + 2 * tn
    · subst e
      unfold F10_nextTurn
      simp only [bL_d]
      split
      · rw [sU_ne hk]
      · rw [sU_ne hk, sU_ne hk, sU_ne hk]
    · rw [sU_ne e, sU_ne e] at this; exact this
  refine r2_s ⟨rfl, ?_⟩
  show ThrS ns nt nl ng tn x T U (F10_nextTurn T2 1) (F12_nextTurn U2)
  refine ⟨nl2, rd', tn', w0, n0.2.1.2.2.1, n0, ?_, fun k a b => ?_, fun k a b c => ?_, fun j a => ?_, fun j a => ?_⟩
  · rw [e1 _ (by omega), w2 _ (by omega) (by omega)]; exact h2
  · rw [e1 _ (by omega), w2 _ (by omega) (by omega)]; exact h3 k a b
  · rw [n2 _ b, w3 _ b]; exact h4 k a b c
  · rw [n2 _ (by decide), w3 _ (by decide)]; exact h5 j a
  · rw [n3 _ (by omega), w4 _ (by omega) (by omega)]; exact h6 j a
theorem L_throw {ns nt nl ng rd tn f a sp p : Nat} {x : Int32} {T U : pS} (hW : RW 1 1 ns nt nl ng rd tn (sU T (29 + 2 * tn) 5 x) U) (htn : tn < nt) (hrd : rd ≤ 5) (hf : f < 100) (ha : a < 61) (hs : sp < ns) (hp : p < 10) :
    R2 (hurl2 T (29 + 2 * tn) (nI f) (nI a) (nI sp) (nI p)) (F12_throwsIt U (nI f) (nI a) (nI sp) (nI p)) (ThrQ ns nt nl ng tn x T U) := by
  have hnt := hW.2.1.2.1
  have ht8 : tn < 8 := by omega
  have I0 : TI ns nt nl ng rd tn x T U T U := ⟨hW, rfl, fun _ _ _ => rfl, fun _ _ _ _ => rfl, fun _ _ => rfl, fun _ _ => rfl⟩
  have R0 := TI_r htn I0
  obtain ⟨b1, b2, b3, -⟩ := hW.2.2.1 tn htn
  obtain ⟨b, hb, eb⟩ := pow_m (f := f) (p := p) hf hp b1
  have h11 : U 1 1 = nI tn := hW.2.1.2.2.2.2.2.2.2.2.2.2.2.1
  have c12 : T 1 2 = U 1 0 := by
    have := hW.1 0 1 2 rfl
    rw [sU_ne (by omega)] at this; exact this
  unfold hurl2 F12_throwsIt
  rw [h11]
  simp only [bL_d (nI tn)]
  rw [own0 _ ht8, bB_s, R0.1, les, eb, bL_d (nI b), bL_d (nI b), own1 _ ht8, bB_s, own3 _ ht8, bB_s, armF ht8, bB_s]
  have hAV : AV 63 (F0_askThrow (F0_ask T 63 (29 + 2 * tn) (T 1 2)) 63 (nI b) (nI p) (nI a)) (nI b) (nI p) (nI a) (U 1 (5 + 7 * tn)) (U 1 (4 + 7 * tn)) (U 1 (7 + 7 * tn)) (U 1 (6 + 7 * tn) / 100) (U 1 0) := by
    have := AV_ask (A := 63) (o := 29 + 2 * tn) (T := T) (rd := T 1 2) (by omega)
    rw [R0.1, R0.2.1, R0.2.2.1, R0.2.2.2, c12] at this
    rw [c12]
    exact AV_thr this
  have hfa : fC T (F0_askThrow (F0_ask T 63 (29 + 2 * tn) (T 1 2)) 63 (nI b) (nI p) (nI a)) := fun k hk => by
    unfold scC at hk
    rw [thr_ne (by omega), ask_ne (by omega)]
  rw [bL_d (F0_ask T 63 (29 + 2 * tn) (T 1 2)), bL_d (F0_askThrow (F0_ask T 63 (29 + 2 * tn) (T 1 2)) 63 (nI b) (nI p) (nI a))]
  generalize F0_askThrow (F0_ask T 63 (29 + 2 * tn) (T 1 2)) 63 (nI b) (nI p) (nI a) = T1 at hAV hfa ⊢
  have I1 : TI ns nt nl ng rd tn x T U T1 U := TI_f ht8 I0 hfa (fM_r U)
  obtain ⟨r, T2, U2, k1, k2, hr, k3, k4, k5, k6, k7, k8⟩ := L_as (w := 0) (VR_v ht8 (VR_of I1.1)) (by decide) hAV
  have I2 : TI ns nt nl ng rd tn x T U T2 U2 := TI_f ht8 I1 k3 k4
  have V2 := VR_v ht8 (VR_of I2.1)
  have hAF2 : AF 63 T2 U2 := AF_c (AF_of hAV) k5 k6
  obtain ⟨⟨rw1, _⟩, ⟨_, U3⟩, -, m2, m3, m4, -, m6⟩ := L_arm (w := 1) (by decide) V2.2.2.2.2.1 (V2.2.1 641 15 0 rfl (by decide)) (by decide) hAF2
  simp only at m3 m4 m6
  subst m3
  have k1' : F0_tell T1 63 15 0 = some (r, T2) := k1
  have k2' : F12_lawSays (af U tn (nI b) (nI p) (nI a) (U 1 (5 + 7 * tn)) (U 1 (7 + 7 * tn))) 1 24 0 1000 = some (r, U2) := k2
  have m2' : F12_lawSays U2 1 25 0 1000 = some (rw1, U3) := m2
  rw [k1', bB2_s, over_d, k2', bB2_s, wear_d, m2', bB2_s]
  have I3 : TI ns nt nl ng rd tn x T U T2 U3 := TI_f ht8 I2 (fC_r T2) ⟨fun k a c => m6 k (by unfold scM at c; omega), fun j _ => by rw [m6 0 (by decide)]⟩
  refine r2_LL (fun j j' ej ej' => ?_)
  have cont : ∀ (isO : Int32) (T4 U4 : pS), TI ns nt nl ng rd tn x T U T4 U4 → T4 64 = T2 64 → R2 (j isO T4) (j' isO U4) (ThrQ ns nt nl ng tn x T U) := by
    intro isO T4 U4 I4 h64
    rw [ej, ej']
    have g1 : ∀ (V W : pS), TI ns nt nl ng rd tn x T U V W → ∀ i, i < 5 → V 2 i = W 1 (60 + i) := fun V W hI i hi => by
      have := hI.1.1 (60 + i) 2 i (loc_wea hi)
      rw [sU_ne (by omega)] at this; exact this
    have g3 : ∀ (V W : pS), TI ns nt nl ng rd tn x T U V W → V 1 0 = W 1 3 := fun V W hI => by
      have := hI.1.1 3 1 0 rfl
      rw [sU_ne (by omega)] at this; exact this
    obtain ⟨sl, hsl, esl⟩ := I4.1.2.1.2.2.2.2.2.2.2.2.2.2.2.2.2.2
    obtain ⟨v1, z1, s1, s2⟩ := L_swing (sl := sl) (nI a) (by omega) (g3 _ _ I4)
    show R2 (bB2 (F10_swing T4 1 (T4 2 3)) _) (bB (F12_weather U4 3) _) _
    rw [wea3, bB_s, g1 _ _ I4 3 (by decide), esl, s1, s2, bB2_s, bB2_s]
    have I5 := TI_d (z := z1) I4
    have h64b : (sU T4 1 0 z1) 64 = T2 64 := (sU_ne (by decide)).trans h64
    generalize sU T4 1 0 z1 = T5 at I5 h64b ⊢
    generalize sU U4 1 3 z1 = U5 at I5 ⊢
    obtain ⟨a9, ha9, ea9⟩ := held_N (v := nI a + v1) (m := 90) (n := 90) rfl (by decide)
    rw [hol (by decide), ea9, bL_d (nI a9), bL_d (nI a9)]
    obtain ⟨gu, hgu, egu⟩ := I5.1.2.1.2.2.2.2.2.2.2.2.2.2.2.2.2.1
    obtain ⟨v2, z2, s3, s4⟩ := L_swing (sl := gu) (U5 1 60) (by omega) (g3 _ _ I5)
    rw [wea0, bB_s, wea2, bB_s, g1 _ _ I5 2 (by decide), g1 _ _ I5 0 (by decide), egu, s3, s4, bB2_s, bB2_s, bL_d (U5 1 (60 + 0) + v2)]
    show R2 (bB (F2_begin (sU T5 1 0 z2) 60 1 (nI b) (nI a9) 0 (nI sp) (U5 1 60 + v2) ((sU T5 1 0 z2) 2 1)) _) _ _
    have I6 := TI_d (z := z2) I5
    have h64c : (sU T5 1 0 z2) 64 = T2 64 := (sU_ne (by decide)).trans h64b
    generalize sU T5 1 0 z2 = T6 at I6 h64c ⊢
    generalize sU U5 1 3 z2 = U6 at I6 ⊢
    have V6 := VR_v ht8 (VR_of I6.1)
    rw [wea1, bB_s, g1 _ _ I6 1 (by decide)]
    obtain ⟨T7, U7, hT7, hU7, ⟨i, hi, hF⟩, hfc, hfm⟩ := L_flies (lie := 0) (wi := U5 1 60 + v2) (si := U6 1 61) (f := b) (a := a9) hb (by omega) hs V6.1 V6.2.1 V6.2.2.1 V6.2.2.2.1
    rw [hU7, bB_s]
    cases hbg : F2_begin T6 60 1 (nI b) (nI a9) 0 (nI sp) (U5 1 60 + v2) (U6 1 61) with
    | none => rw [hbg] at hT7; cases hT7
    | some B =>
      rw [hbg, bB_s] at hT7
      rw [bB_s, hT7, bB_s]
      have I7 : TI ns nt nl ng rd tn x T U T7 U7 := TI_f ht8 I6 (fC1_f hfc) (fM1_f hfm)
      have g4 : T7 2 4 = U7 1 64 := g1 _ _ I7 4 (by decide)
      refine r2_LL (fun l l' el el' => ?_)
      have cont2 : ∀ how : Int32, R2 (l how) (l' how) (ThrQ ns nt nl ng tn x T U) := by
        intro how
        rw [el, el']
        show R2 (bB2 (F0_tell T7 63 15 1) _) (bB (F12_own U7 (nI tn) 1) _) _
        have V7 := VR_v ht8 (VR_of I7.1)
        have u27 : ∀ j, 60 ≤ j → j < 3296 → U2 1 j = U7 1 j := fun j a b => by rw [k8]; exact (I7.2.2.2.2.2 j (by omega)).symm
        have hLR : LR 15 1 1 T7 U2 := LR_m V7.2.2.2.2.1 (by decide) (fun _ _ _ => rfl) (fun j a b => u27 j (by omega) b)
        obtain ⟨⟨rw2, T8⟩, ⟨_, U8⟩, q1, q2, q3, q4, q5, -⟩ := L_arm (A := 63) (w := 1) (T := T7) (U := U2) (by decide) hLR (by rw [u27 641 (by decide) (by decide)]; exact V7.2.1 641 15 0 rfl (by decide)) (by decide) (AF_c hAF2 ((hfc 64 (by decide) (by decide) (by decide)).trans h64c) rfl)
        simp only at q3 q4 q5
        subst q3
        rw [m2] at q2
        cases q2
        have q1' : F0_tell T7 63 15 1 = some (rw1, T8) := q1
        have I8 : TI ns nt nl ng rd tn x T U T8 U7 := TI_f ht8 I7 (fun k hk => q5 k (by unfold scC at hk; omega)) (fM_r U7)
        have R7 := TI_r htn I7
        have R8 := TI_r htn I8
        have I9 := TI_t (f := 1) (v := jmin 1000 (U7 1 (5 + 7 * tn) + rw1)) htn (Or.inl rfl) (fun _ => wear_m (I7.1.2.2.1 tn htn).2.1 m4) nofun I8
        rw [q1', bB2_s, own1 _ ht8, bB_s, giv1 _ _ ht8, bB_s, R7.2.1, les]
        rw [bL_d (sU T8 (29 + 2 * tn) 1 (jmin 1000 (U7 1 (5 + 7 * tn) + rw1)))]
        have h60 : (sU T8 (29 + 2 * tn) 1 (jmin 1000 (U7 1 (5 + 7 * tn) + rw1))) 60 1 = (sU U7 1 (5 + 7 * tn) (jmin 1000 (U7 1 (5 + 7 * tn) + rw1))) 0 30 := by
          rw [sU_ne (by omega), sU_ne (by decide), q5 60 (by decide)]; exact hF.2.2.2.2.2.2.2.2.2.2.1
        have hN : isN ((sU U7 1 (5 + 7 * tn) (jmin 1000 (U7 1 (5 + 7 * tn) + rw1))) 0 30) 475201 := by
          rw [sU_ne (by decide)]
          obtain ⟨g, hg, eg⟩ := hF.2.2.2.2.2.2.2.2.2.2.2.2.2.2.2
          exact ⟨g, by omega, eg⟩
        have I9' : TI ns nt nl ng rd tn x T U (sU T8 (29 + 2 * tn) 1 (jmin 1000 (U7 1 (5 + 7 * tn) + rw1))) (sU U7 1 (5 + 7 * tn) (jmin 1000 (U7 1 (5 + 7 * tn) + rw1))) := I9
        generalize sU T8 (29 + 2 * tn) 1 (jmin 1000 (U7 1 (5 + 7 * tn) + rw1)) = T9 at I9' h60 ⊢
        generalize sU U7 1 (5 + 7 * tn) (jmin 1000 (U7 1 (5 + 7 * tn) + rw1)) = U9 at I9' h60 hN ⊢
        have R9 := TI_r htn I9'
        have I10 := TI_t (f := 3) (v := U9 1 (7 + 7 * tn) + 1) htn (Or.inr (Or.inr rfl)) nofun nofun I9'
        rw [own3 _ ht8, bB_s, giv3 _ _ ht8, bB_s, R9.2.2.2, bL_d (sU T9 (29 + 2 * tn) 3 (U9 1 (7 + 7 * tn) + 1))]
        have h60b : (sU T9 (29 + 2 * tn) 3 (U9 1 (7 + 7 * tn) + 1)) 60 1 = (sU U9 1 (7 + 7 * tn) (U9 1 (7 + 7 * tn) + 1)) 0 30 := by
          rw [sU_ne (by omega), sU_ne (by decide)]; exact h60
        have hNb : isN ((sU U9 1 (7 + 7 * tn) (U9 1 (7 + 7 * tn) + 1)) 0 30) 475201 := by
          rw [sU_ne (by decide)]; exact hN
        have I10' : TI ns nt nl ng rd tn x T U (sU T9 (29 + 2 * tn) 3 (U9 1 (7 + 7 * tn) + 1)) (sU U9 1 (7 + 7 * tn) (U9 1 (7 + 7 * tn) + 1)) := I10
        generalize sU T9 (29 + 2 * tn) 3 (U9 1 (7 + 7 * tn) + 1) = T10 at I10' h60b ⊢
        generalize sU U9 1 (7 + 7 * tn) (U9 1 (7 + 7 * tn) + 1) = U10 at I10' h60b hNb ⊢
        have R10 := TI_r htn I10'
        simp only [bL_d]
        by_cases h0 : how = 0
        · rw [if_pos h0, if_pos h0, own2 _ ht8, bB_s, giv2 _ _ ht8, bB_s, R10.2.2.1, h60b, gre]
          have I11 := TI_t (f := 2) (v := jmax (U10 1 (6 + 7 * tn)) (U10 0 30)) htn (Or.inr (Or.inl rfl)) nofun (fun _ => jmax_N (I10'.1.2.2.1 tn htn).2.2.1 hNb) I10'
          exact L_thrE htn hrd hs hb (by omega) I11 (by rw [sU_ne (by omega), sU_ne (by decide)]; exact h60b)
        · rw [if_neg h0, if_neg h0]
          exact L_thrE htn hrd hs hb (by omega) I10' h60b
      by_cases hO : isO = 0
      · rw [if_pos hO, if_pos hO]
        rcases how_m hF g4 with ⟨y1, z, y2, ⟨rfl, y3⟩ | ⟨rfl, y3⟩⟩ | ⟨y1, y3⟩
        · rw [y3, if_pos y1, y2, bB_s, if_pos rfl]; exact cont2 4
        · rw [y3, if_pos y1, y2, bB_s, if_neg n10]; exact cont2 0
        · rw [y3, if_neg y1]; exact cont2 _
      · rw [if_neg hO, if_neg hO]; exact cont2 1
  simp only [bL_d]
  by_cases hr0 : r ≤ 0
  · rw [if_pos hr0, if_pos hr0]
    exact cont 0 T2 U3 I3 rfl
  · rw [if_neg hr0, if_neg hr0]
    have e3 : T2 1 0 = U3 1 3 := by
      have := I3.1.1 3 1 0 rfl
      rw [sU_ne (by omega)] at this; exact this
    obtain ⟨d, z, d1, d2⟩ := L_draw (n := 1000) (by decide) (by decide) e3
    have d1' : F10_draw T2 1 1000 = some (d, sU T2 1 0 z) := d1
    have d2' : F12_draw U3 1000 = some (d, sU U3 1 3 z) := d2
    rw [d1', d2', bB2_s, bB2_s]
    by_cases hd : r ≤ d
    · rw [if_pos hd, if_pos hd]
      exact cont 0 _ _ (TI_d I3) (sU_ne (by decide))
    · rw [if_neg hd, if_neg hd]
      exact cont 1 _ _ (TI_d I3) (sU_ne (by decide))
