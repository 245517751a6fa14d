theorem whole_start {p : Program} {e : Env} {s : State} {m : MethodId} {below : List Frame} {meth : Method} {c : Code} (l : Launch) (hflags : l.flags = flags0) {b L : Nat} {xs : Nat → Int32} (hL : L ≤ 4096) (C0 : lw_At p s m meth c b L xs) : W p l e room_1 s m #[Value.ref b] below meth c s.heap [] 0 0 (lw_Z below #[Value.ref b] s) (entryFrame m ([Value.ref b] : List Value).toArray 4) := by
  obtain ⟨hx, hb, hr, hml, hown, hts, hX, hbl, hlocks, hgv⟩ := id C0
  have htG : ∀ w ∈ wsG, w.before #[Value.ref b] s = true := fun w hw => hts w (wsG_in hw)
  have hAO : va_AO RX8 s := va_AO.of (hts _ ao_w)
  have hAI : AOI s := hts _ ai_w
  obtain ⟨D, hD⟩ := kn_all htG
  obtain ⟨d, hd⟩ := ar_all htG hAO hAI
  obtain ⟨adK, adV, hRO⟩ := ro_all hts hgv
  have G : Cx p s m #[Value.ref b] c RL cL_law 4 (mkZ D d kdC adK adV) := ⟨⟨hx, hb, hml, hown, htG⟩, ⟨hD, hd⟩, nn_all hts, hRO D d⟩
  obtain ⟨ls, e1, e2⟩ := lv_in [.ref b] 4 (Nat.le_of_ble_eq_true rfl)
  have e1 := e1 m
  rw [show entryFrame m ([Value.ref b] : List Value).toArray 4 = F0 m 0 ls [] from e1]
  exact law_ent hL C0 G hAO hAI e2
