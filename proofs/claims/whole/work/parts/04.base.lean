/-! the state of a system by numbers of its objects; the cells that it is -/
abbrev pS : Type := Nat → Nat → Int32
def sU (S : pS) (k j : Nat) (v : Int32) : pS := fun k' j' => if k' = k ∧ j' = j then v else S k' j'
def sR (S : pS) (k : Nat) (f : Nat → Int32) : pS := fun k' => if k' = k then f else S k'
theorem sU_ne {S : pS} {k j k' : Nat} {v : Int32} (h : k' ≠ k) : sU S k j v k' = S k' := funext fun _ => if_neg (fun q => h q.1)
theorem sU_at (S : pS) (k j : Nat) (v : Int32) : sU S k j v k = upd (S k) j v := funext fun j' => by
  by_cases h : j' = j
  · rw [sU, upd, if_pos ⟨rfl, h⟩, if_pos h]
  · rw [sU, upd, if_neg (fun q => h q.2), if_neg h]
theorem sU_get (S : pS) (k j k' j' : Nat) (v : Int32) : sU S k j v k' j' = if k' = k ∧ j' = j then v else S k' j' := rfl
theorem sU_s (S : pS) (k j : Nat) (v : Int32) : sU S k j v k j = v := if_pos ⟨rfl, rfl⟩
theorem sU_n {S : pS} {k j k' j' : Nat} {v : Int32} (h : ¬ (k' = k ∧ j' = j)) : sU S k j v k' j' = S k' j' := if_neg h
theorem sR_ne {S : pS} {k k' : Nat} {f : Nat → Int32} (h : k' ≠ k) : sR S k f k' = S k' := if_neg h
theorem sR_at (S : pS) (k : Nat) (f : Nat → Int32) : sR S k f k = f := if_pos rfl
abbrev pK : Type := Nat → (Nat × Nat) ⊕ (Nat × List Nat)
/-- (class numbers, array classes, kinds, addresses, the objects that are, the other system's cells, the literals' addresses) -/
abbrev pZ : Type := va_G × (Nat → ClassId) × pK × (Nat → Nat) × List Nat × va_W × (Nat → Nat) × (Nat → Nat)
def zD (Z : pZ) : va_G := Z.1
def zd (Z : pZ) : Nat → ClassId := Z.2.1
def zk (Z : pZ) : pK := Z.2.2.1
def za (Z : pZ) : Nat → Nat := Z.2.2.2.1
def zL (Z : pZ) : List Nat := Z.2.2.2.2.1
def zX (Z : pZ) : va_W := Z.2.2.2.2.2.1
def zs (Z : pZ) : Nat → Nat := Z.2.2.2.2.2.2.1
def zv (Z : pZ) : Nat → Nat := Z.2.2.2.2.2.2.2
/-- a long in two places -/
def pjn (a b : Int32) : Int64 := (a.toUInt32.toUInt64 ||| (b.toUInt32.toUInt64 <<< 32)).toInt64
def plo (x : Int64) : Int32 := x.toInt32
def phi (x : Int64) : Int32 := (x.toUInt64 >>> 32).toInt64.toInt32
def prow (ad : Nat → Nat) (f : Nat → Int32) (k : Nat) : Nat → (Nat → Int32) ⊕ (Nat → Int64) ⊕ (Nat → UInt32) ⊕ (Nat → UInt64) ⊕ (Nat → Option Nat)
  | 3 => .inr (.inl (fun j => pjn (f (2 * j)) (f (2 * j + 1))))
  | 4 => .inr (.inr (.inr (.inr (fun j => some (ad (k + 24 + 2 * j))))))
  | 5 => .inr (.inr (.inr (.inr (fun j => some (ad (k + 1 + j))))))
  | _ => .inl f
/-- a reference that changes: null, or the object of that number -/
def pmu (x : Int32) : Option Nat := if x = 0 then none else some x.toNatClampNeg
def pfv (ad : Nat → Nat) (f : Nat → Int32) (k j : Nat) : Nat → Value
  | 0 => .int (f j)
  | 1 => va_rf ((pmu (f j)).map ad)
  | n + 2 => .ref (ad (k + n))
def pfs (ad : Nat → Nat) (f : Nat → Int32) (k : Nat) : Nat → List Nat → List Value
  | _, [] => []
  | j, q :: qs => pfv ad f k j q :: pfs ad f k (j + 1) qs
def pcel (Z : pZ) (S : pS) (k : Nat) : va_E := match zk Z k with
  | .inl t => .inl (zd Z t.1, t.2, prow (za Z) (S k) k t.1)
  | .inr o => .inr (o.1, pfs (za Z) (S k) k 0 o.2)
def pW (Z : pZ) (S : pS) : va_W := (zL Z).map (fun k => (za Z k, pcel Z S k)) ++ zX Z
theorem pcel_congr {Z : pZ} {S S' : pS} {k : Nat} (h : S' k = S k) : pcel Z S' k = pcel Z S k := by unfold pcel; rw [h]
theorem pfs_get (ad : Nat → Nat) (f : Nat → Int32) (k : Nat) : ∀ (qs : List Nat) (j0 j : Nat), (pfs ad f k j0 qs)[j]? = (qs[j]?).map (fun q => pfv ad f k (j0 + j) q)
  | [], j0, j => by simp [pfs]
  | q :: qs, j0, 0 => by simp [pfs]
  | q :: qs, j0, j + 1 => by
    simp only [pfs, List.getElem?_cons_succ]
    rw [pfs_get ad f k qs (j0 + 1) j, show j0 + 1 + j = j0 + (j + 1) by omega]
theorem pfs_len (ad : Nat → Nat) (f : Nat → Int32) (k : Nat) : ∀ (qs : List Nat) (j0 : Nat), (pfs ad f k j0 qs).length = qs.length
  | [], _ => rfl
  | _ :: qs, j0 => by simp only [pfs, List.length_cons, pfs_len ad f k qs (j0 + 1)]
theorem pfv_upd {ad : Nat → Nat} {f : Nat → Int32} {k j j' q : Nat} {v : Int32} (h : j' ≠ j) : pfv ad (upd f j v) k j' q = pfv ad f k j' q := by
  have e : upd f j v j' = f j' := if_neg h
  match q with
  | 0 => simp only [pfv, e]
  | 1 => simp only [pfv, e]
  | n + 2 => rfl
theorem pfs_set {ad : Nat → Nat} {f : Nat → Int32} {k j q : Nat} {v : Int32} {qs : List Nat} {w : Value} (hq : qs[j]? = some q) (hw : w = pfv ad (upd f j v) k j q) : (pfs ad f k 0 qs).set j w = pfs ad (upd f j v) k 0 qs := by
  have hj : j < qs.length := (List.getElem?_eq_some_iff.mp hq).1
  apply List.ext_getElem?
  intro i
  by_cases h : j = i
  · subst h
    rw [List.getElem?_set_self (by rw [pfs_len]; exact hj), pfs_get, hq, hw]
    simp
  · rw [List.getElem?_set_ne h, pfs_get, pfs_get]
    cases hi : qs[i]? with
    | none => rfl
    | some r => simp only [Option.map_some]; rw [pfv_upd (by omega)]
theorem pW_at {Z : pZ} {k : Nat} (h : k ∈ zL Z) : ∃ i : Nat, (zL Z)[i]? = some k ∧ ∀ S : pS, (pW Z S)[i]? = some (za Z k, pcel Z S k) := by
  obtain ⟨i, hi⟩ := List.getElem?_of_mem h
  refine ⟨i, hi, fun S => ?_⟩
  have hl : i < (zL Z).length := (List.getElem?_eq_some_iff.mp hi).1
  unfold pW
  rw [List.getElem?_append_left (by simpa using hl), List.getElem?_map, hi]
  rfl
theorem pW_len (Z : pZ) (S : pS) : (pW Z S).length = (zL Z).length + (zX Z).length := by simp [pW]
theorem pW_set {Z : pZ} {S S' : pS} {A : Nat → Prop} {k i : Nat} {w : va_E} (hD : va_D A (pW Z S)) (hi : (zL Z)[i]? = some k) (hS : ∀ k', k' ≠ k → S' k' = S k') (hw : w = pcel Z S' k) : (pW Z S).set i (za Z k, w) = pW Z S' := by
  have hl : i < (zL Z).length := (List.getElem?_eq_some_iff.mp hi).1
  have hin : ∀ (T : pS) (j : Nat), j < (zL Z).length → (pW Z T)[j]? = ((zL Z)[j]?).map (fun k => (za Z k, pcel Z T k)) := fun T j h => by
    unfold pW
    rw [List.getElem?_append_left (by simpa using h), List.getElem?_map]
  apply List.ext_getElem?
  intro j
  by_cases h : i = j
  · subst h
    rw [List.getElem?_set_self (by rw [pW_len]; omega), hin S' i hl, hi, hw]
    rfl
  · rw [List.getElem?_set_ne h]
    by_cases hjl : j < (zL Z).length
    · rw [hin S j hjl, hin S' j hjl]
      cases hk : (zL Z)[j]? with
      | none => rfl
      | some k' =>
        have hne : k' ≠ k := fun e => by
          subst e
          exact h (hD.1 i j _ _ (by rw [hin S i hl, hi]; rfl) (by rw [hin S j hjl, hk]; rfl) rfl)
        simp only [Option.map_some]
        rw [pcel_congr (hS k' hne)]
    · unfold pW
      rw [List.getElem?_append_right (by simpa using hjl), List.getElem?_append_right (by simpa using hjl)]
      simp
/-- the same addresses, whatever the state is -/
theorem pW_addr {Z : pZ} {S S' : pS} {j : Nat} {q : Nat × va_E} (h : (pW Z S)[j]? = some q) : ∃ q' : Nat × va_E, (pW Z S')[j]? = some q' ∧ q'.1 = q.1 := by
  unfold pW at h ⊢
  by_cases hjl : j < (zL Z).length
  · rw [List.getElem?_append_left (by simpa using hjl), List.getElem?_map] at h
    rw [List.getElem?_append_left (by simpa using hjl), List.getElem?_map]
    cases hk : (zL Z)[j]? with
    | none => rw [hk] at h; cases h
    | some k =>
      rw [hk] at h
      cases h
      exact ⟨_, rfl, rfl⟩
  · rw [List.getElem?_append_right (by simpa using hjl)] at h
    rw [List.getElem?_append_right (by simpa using hjl)]
    simp only [List.length_map] at h ⊢
    exact ⟨q, h, rfl⟩
theorem pW_D {Z : pZ} {S S' : pS} {A : Nat → Prop} (h : va_D A (pW Z S)) : va_D A (pW Z S') := by
  refine ⟨fun i j p q hp hq e => ?_, fun j q hq => ?_⟩
  · obtain ⟨p', h1, e1⟩ := pW_addr (S' := S) hp
    obtain ⟨q', h2, e2⟩ := pW_addr (S' := S) hq
    exact h.1 i j p' q' h1 h2 (e1.trans (e.trans e2.symm))
  · obtain ⟨q', h2, e2⟩ := pW_addr (S' := S) hq
    rw [← e2]
    exact h.2 j q' h2
/-- which cells a method of this system may change -/
def pA (Z : pZ) (sz : Nat) : Nat → Prop := fun q => (∃ k, k ∈ zL Z ∧ za Z k = q) ∨ (∃ (i : Nat) (e : va_E), (zX Z)[i]? = some (q, e)) ∨ sz ≤ q
theorem pA_mono {Z : pZ} {a b : Nat} (h : a ≤ b) {q : Nat} (hq : pA Z b q) : pA Z a q := by
  rcases hq with h1 | h1 | h1
  · exact Or.inl h1
  · exact Or.inr (Or.inl h1)
  · exact Or.inr (Or.inr (Nat.le_trans h h1))
theorem pA_D {Z : pZ} {S : pS} {sz : Nat} {A : Nat → Prop} (h : va_D A (pW Z S)) : va_D (pA Z sz) (pW Z S) := by
  refine ⟨h.1, fun j q hq => ?_⟩
  unfold pW at hq
  by_cases hjl : j < (zL Z).length
  · rw [List.getElem?_append_left (by simpa using hjl), List.getElem?_map] at hq
    cases hk : (zL Z)[j]? with
    | none => rw [hk] at hq; cases hq
    | some k =>
      rw [hk] at hq
      cases hq
      exact Or.inl ⟨k, List.mem_of_getElem? hk, rfl⟩
  · rw [List.getElem?_append_right (by simpa using hjl)] at hq
    exact Or.inr (Or.inl ⟨_, q.2, hq⟩)
def tyL (Z : pZ) : List (ClassId × FieldType) := [(zd Z 0, .int), (zd Z 1, .byte), (zd Z 2, .boolean), (zd Z 3, .long), (zd Z 4, .object RX8), (zd Z 5, .array .int)]
/-- the String constants: where they are loaded, and what they hold -/
def litR : List (String × Nat × String × Nat) := [(RX11, 108, "when or and not lift drag dip drift fore up height pitch wind side soft tip tick", 0), (RX11, 122, "when or and not over wear mend force pace angle wearing power thrown best round", 1), (RX11, 134, "when or and not gain cost balls power wearing week", 2), (RX5, 113, "throw at with pace below pass", 3), (RX12, 117, "lift", 4), (RX12, 123, "drag", 5), (RX12, 125, "dip", 6), (RX12, 127, "drift", 7), (RX12, 129, "fore", 8), (RX12, 131, "up", 9), (RX12, 133, "height", 10), (RX12, 135, "pitch", 11), (RX12, 137, "wind", 12), (RX12, 139, "side", 13), (RX12, 141, "soft", 14), (RX12, 143, "tip", 15), (RX12, 145, "tick", 16), (RX12, 147, "over", 17), (RX12, 149, "wear", 18), (RX12, 151, "mend", 19), (RX12, 153, "force", 20), (RX12, 155, "pace", 21), (RX12, 157, "angle", 22), (RX12, 159, "wearing", 23), (RX12, 161, "power", 24), (RX12, 163, "thrown", 25), (RX12, 165, "best", 26), (RX12, 167, "round", 27), (RX12, 169, "gain", 28), (RX12, 171, "cost", 29), (RX12, 173, "balls", 30), (RX12, 175, "week", 31), (RX12, 177, "throw", 32), (RX12, 179, "pass", 33), (RX12, 181, "at", 34), (RX12, 182, "with", 35), (RX12, 184, "below", 36), (RX12, 192, "when", 37), (RX12, 194, "or", 38), (RX12, 196, "and", 39), (RX12, 198, "not", 40)]
def litByt : List (List Int32) := [[119, 104, 101, 110, 32, 111, 114, 32, 97, 110, 100, 32, 110, 111, 116, 32, 108, 105, 102, 116, 32, 100, 114, 97, 103, 32, 100, 105, 112, 32, 100, 114, 105, 102, 116, 32, 102, 111, 114, 101, 32, 117, 112, 32, 104, 101, 105, 103, 104, 116, 32, 112, 105, 116, 99, 104, 32, 119, 105, 110, 100, 32, 115, 105, 100, 101, 32, 115, 111, 102, 116, 32, 116, 105, 112, 32, 116, 105, 99, 107], [119, 104, 101, 110, 32, 111, 114, 32, 97, 110, 100, 32, 110, 111, 116, 32, 111, 118, 101, 114, 32, 119, 101, 97, 114, 32, 109, 101, 110, 100, 32, 102, 111, 114, 99, 101, 32, 112, 97, 99, 101, 32, 97, 110, 103, 108, 101, 32, 119, 101, 97, 114, 105, 110, 103, 32, 112, 111, 119, 101, 114, 32, 116, 104, 114, 111, 119, 110, 32, 98, 101, 115, 116, 32, 114, 111, 117, 110, 100], [119, 104, 101, 110, 32, 111, 114, 32, 97, 110, 100, 32, 110, 111, 116, 32, 103, 97, 105, 110, 32, 99, 111, 115, 116, 32, 98, 97, 108, 108, 115, 32, 112, 111, 119, 101, 114, 32, 119, 101, 97, 114, 105, 110, 103, 32, 119, 101, 101, 107], [116, 104, 114, 111, 119, 32, 97, 116, 32, 119, 105, 116, 104, 32, 112, 97, 99, 101, 32, 98, 101, 108, 111, 119, 32, 112, 97, 115, 115], [108, 105, 102, 116], [100, 114, 97, 103], [100, 105, 112], [100, 114, 105, 102, 116], [102, 111, 114, 101], [117, 112], [104, 101, 105, 103, 104, 116], [112, 105, 116, 99, 104], [119, 105, 110, 100], [115, 105, 100, 101], [115, 111, 102, 116], [116, 105, 112], [116, 105, 99, 107], [111, 118, 101, 114], [119, 101, 97, 114], [109, 101, 110, 100], [102, 111, 114, 99, 101], [112, 97, 99, 101], [97, 110, 103, 108, 101], [119, 101, 97, 114, 105, 110, 103], [112, 111, 119, 101, 114], [116, 104, 114, 111, 119, 110], [98, 101, 115, 116], [114, 111, 117, 110, 100], [103, 97, 105, 110], [99, 111, 115, 116], [98, 97, 108, 108, 115], [119, 101, 101, 107], [116, 104, 114, 111, 119], [112, 97, 115, 115], [97, 116], [119, 105, 116, 104], [98, 101, 108, 111, 119], [119, 104, 101, 110], [111, 114], [97, 110, 100], [110, 111, 116]]
def litLen : List Nat := [80, 79, 50, 29, 4, 4, 3, 5, 4, 2, 6, 5, 4, 4, 4, 3, 4, 4, 4, 4, 5, 4, 5, 7, 5, 6, 4, 5, 4, 4, 5, 4, 5, 4, 2, 4, 5, 4, 2, 3, 3]
def litN : Nat := 41
def nestL : List (String × Nat × MethodName × String) := [(RX0, 46, yX11_hold, RX11), (RX2, 55, yX11_hold, RX11), (RX6, 77, yX11_within, RX11), (RX7, 64, yX11_hold, RX11), (RX8, 43, yX11_within, RX11), (RX9, 44, yX11_hold, RX11), (RX10, 89, yX11_within, RX11)]
/-- the private members of nest mates that are called -/
def NN (U : State) : Prop := ∀ q ∈ nestL, va_Nw (.methodLinkNest q.1 q.2.1 q.2.2.1 q.2.2.2) U
/-- the String constants, and the one static that their methods read -/
def RO (Z : pZ) (U : State) (H : Heap) (sz : Nat) : Prop := vk_S litN litLen litByt (zs Z) (zv Z) (pA Z sz) U H ∧ va_Z "java/lang/String" "COMPACT_STRINGS" "Z" (.int 1) (pA Z sz) U H ∧ (∃ o : Option Nat, va_Z "jdk/internal/util/Preconditions" "SIOOBE_FORMATTER" "Ljava/util/function/BiFunction;" (va_rf o) (pA Z sz) U H) ∧ ∀ q ∈ litR, vk_R q.1 q.2.1 q.2.2.1 (zs Z q.2.2.2) U
def Wo (Z : pZ) (S : pS) (U : State) : Prop := va_P (zD Z) vwCl (pW Z S) U.heap ∧ va_K (zD Z) vwCl (tyL Z) U ∧ va_D (fun _ => True) (pW Z S) ∧ NN U ∧ RO Z U U.heap U.heap.size
def Wd (Z : pZ) (s : State) (S : pS) (H : Heap) (locs : List Loc) : Prop := va_P (zD Z) vwCl (pW Z S) H ∧ va_D (pA Z s.heap.size) (pW Z S) ∧ va_S (pA Z s.heap.size) s.heap H locs
abbrev Cx (p : Program) (s : State) (m : MethodId) (args : Array Value) (c : Code) (own : String) (cc : ByteArray) (nL : Nat) (Z : pZ) : Prop := CallFix p m c cc nL s args wsG own ∧ va_K (zD Z) vwCl (tyL Z) s ∧ NN s ∧ RO Z s s.heap s.heap.size
def isA (Z : pZ) (K : (Nat × Nat) ⊕ (Nat × List Nat)) (k : Nat) : Prop := zk Z k = K ∧ k ∈ zL Z
def CK (ci : Nat) (C : String) (T : u_T) (N : Nat) (ty : Nat → FieldType) : Prop := vwCl[ci]? = some (C, T, N) ∧ (∀ w ∈ u_ws C T N, w ∈ wsG) ∧ (∀ k, k < N → parseFieldDescriptor (T k).2.2.1 = some (ty k)) ∧ (∀ a, a < N → ∀ b, b < N → a ≠ b → (T a).2.1 ≠ (T b).2.1) ∧ ∀ j, j < N → (T j).1 = C
theorem pcel_o {Z : pZ} {S : pS} {k ci : Nat} {qs : List Nat} (h : zk Z k = .inr (ci, qs)) : pcel Z S k = .inr (ci, pfs (za Z) (S k) k 0 qs) := by unfold pcel; rw [h]
theorem pcel_a {Z : pZ} {S : pS} {k t n : Nat} (h : zk Z k = .inl (t, n)) : pcel Z S k = .inl (zd Z t, n, prow (za Z) (S k) k t) := by unfold pcel; rw [h]
def CI (l : Launch) (Z : pZ) (y : MethodName) (cc : ByteArray) (mL : Nat) (rt : FieldType) (fr lo : Nat) (av : List Value) (S : pS) (r : Int32) (S2 : pS) : Prop := ∀ sz : Nat, Met l y (.code y cc mL (some rt) :: wsG) { frames := fr, cells := 0, slots := 0, locals := lo } (va_Pc av (fun U => U.heap.size = sz ∧ Wo Z S U)) (va_Qi (fun (r' : Int32) (_ : Unit) => r' = r) (fun _ t => va_P (zD Z) vwCl (pW Z S2) t.heap) (pA Z sz)) 0 0 (pA Z sz)
def CL (l : Launch) (Z : pZ) (y : MethodName) (cc : ByteArray) (mL : Nat) (fr lo : Nat) (av : List Value) (S : pS) (r : Int64) (S2 : pS) : Prop := ∀ sz : Nat, Met l y (.code y cc mL (some .long) :: wsG) { frames := fr, cells := 0, slots := 0, locals := lo } (va_Pc av (fun U => U.heap.size = sz ∧ Wo Z S U)) (va_Ql (fun (r' : Int64) (_ : Unit) => r' = r) (fun _ t => va_P (zD Z) vwCl (pW Z S2) t.heap) (pA Z sz)) 0 0 (pA Z sz)
def CV (l : Launch) (Z : pZ) (y : MethodName) (cc : ByteArray) (mL : Nat) (fr lo : Nat) (av : List Value) (S : pS) (S2 : pS) : Prop := ∀ sz : Nat, Met l y (.code y cc mL none :: wsG) { frames := fr, cells := 0, slots := 0, locals := lo } (va_Pc av (fun U => U.heap.size = sz ∧ Wo Z S U)) (va_Qv (fun _ : Unit => True) (fun _ t => va_P (zD Z) vwCl (pW Z S2) t.heap) (pA Z sz)) 0 0 (pA Z sz)
def CQ (l : Launch) (Z : pZ) (y : MethodName) (cc : ByteArray) (mL : Nat) (rt : FieldType) (fr lo : Nat) (av : List Value) (S : pS) (r : Option Nat) (S2 : pS) : Prop := ∀ sz : Nat, Met l y (.code y cc mL (some rt) :: wsG) { frames := fr, cells := 0, slots := 0, locals := lo } (va_Pc av (fun U => U.heap.size = sz ∧ Wo Z S U)) (va_Qq (fun (r' : Option Nat) (_ : Unit) => r' = r.map (za Z)) (fun _ t => va_P (zD Z) vwCl (pW Z S2) t.heap) (pA Z sz)) 0 0 (pA Z sz)
theorem blind {Z : pZ} {S : pS} {av : List Value} {sz : Nat} : FrameBlind (va_Pc av (fun U => U.heap.size = sz ∧ Wo Z S U)) := by
  intro a U g mk q
  obtain ⟨q0, q1, qP, qK, qD, qN, qS, qZ, ⟨o, qO⟩, qR⟩ := q
  have hal : U.vm.Alike (U.calling g mk a).vm := Vm.Alike.refl U.vm
  exact ⟨q0, q1, qP, va_K.moved (u := U) (U := U.calling g mk a) hal qK, qD, fun w hw => va_Nw.same rfl (rfl : U.vm = (U.calling g mk a).vm) (qN w hw), vk_S.moved (u := U) (U := U.calling g mk a) hal qS, va_Z.moved (u := U) (U := U.calling g mk a) hal qZ, ⟨o, va_Z.moved (u := U) (U := U.calling g mk a) hal qO⟩, fun w hw => vk_R.same (u := U) (U := U.calling g mk a) rfl (qR w hw)⟩
section PF
variable {p : Program} {l : Launch} {e : Env} {R : Room} {s : State} {m : MethodId} {args : Array Value} {below : List Frame} {meth : Method} {c : Code} {H : Heap} {locs : List Loc} {cells slots : Nat} {Q : State → Prop}
variable {cc cy : ByteArray} {pc nL mL fr lo index n ci N k j : Nat} {ls : Array Slot} {rest st0 As : List Value} {Z : pZ} {S S2 : pS} {own C : String} {y : MethodName} {T : u_T} {ty : Nat → FieldType} {qs : List Nat} {rt : FieldType} {ret : Option FieldType}
theorem Wo_of (G : Cx p s m args c own cc nL Z) (hw : Wd Z s S H locs) {U : State} (hU : U.heap = H) (hW : s.WarmedH U.vm) : Wo Z S U := by
  obtain ⟨-, hK, hN, hS, hZ, ⟨o, hO⟩, hR⟩ := G
  obtain ⟨hP, hD, hSS⟩ := hw
  have nar : ∀ q, pA Z H.size q → pA Z s.heap.size q := fun q hq => pA_mono hSS.1 hq
  refine ⟨by rw [hU]; exact hP, va_K.moved hW.alike hK, hD.weaken (fun _ _ _ _ => trivial), fun w hw => (hN w hw).warmM hW, ?_, ?_, ⟨o, ?_⟩, fun w hw => (hR w hw).warm hW⟩
  · rw [hU]
    exact ((vk_S.moved hW.alike hS).kept (fun a ha hna => hSS.2.1 a ha hna)).narrow nar
  · rw [hU]
    exact ((va_Z.moved hW.alike hZ).kept (fun a ha hna => hSS.2.1 a ha hna)).narrow nar
  · rw [hU]
    exact ((va_Z.moved hW.alike hO).kept (fun a ha hna => hSS.2.1 a ha hna)).narrow nar
theorem top_i {x v : Int32} (h : x = v) (kk : W p l e R s m args below meth c H locs cells slots Q (F0 m pc ls (.int x :: rest))) : W p l e R s m args below meth c H locs cells slots Q (F0 m pc ls (.int v :: rest)) := h ▸ kk
theorem top_l {x v : Int64} (h : x = v) (kk : W p l e R s m args below meth c H locs cells slots Q (F0 m pc ls (.long x :: rest))) : W p l e R s m args below meth c H locs cells slots Q (F0 m pc ls (.long v :: rest)) := h ▸ kk
/-- getfield of an int -/
theorem gI (G : Cx p s m args c own cc nL Z) (hw : Wd Z s S H locs) (h : isA Z (.inr (ci, qs)) k) (hc : CK ci C T N ty) (j : Nat) (hj : j < N) (hq : qs[j]? = some 0) (hlk : Cond.fieldLink own index C (T j).2.1 (T j).2.2.1 ∈ wsG) (hdg : decode cc pc = .ok (.getfield index, 3))
    (kk : W p l e R s m args below meth c H locs cells slots Q (F0 m (pc + 3) ls (.int (S k j) :: rest))) : W p l e R s m args below meth c H locs cells slots Q (F0 m pc ls (.ref (za Z k) :: rest)) := by
  obtain ⟨⟨hx, hb, -, hown, hts⟩, hK, -⟩ := G
  obtain ⟨i, -, hi⟩ := pW_at h.2
  have he := hi S
  rw [pcel_o h.1] at he
  refine va_get hx hb hts hc.2.1 hown hK hw.1 i he hc.1 j hj (hts _ hlk) (fun x hx => ?_) (v := .int (S k j)) (by rw [pfs_get, hq]; simp [pfv]) hdg kk
  rw [hc.2.2.2.2 j hj] at hx
  exact hx
/-- getfield of a reference that never changes -/
theorem gF (G : Cx p s m args c own cc nL Z) (hw : Wd Z s S H locs) (h : isA Z (.inr (ci, qs)) k) (hc : CK ci C T N ty) (j : Nat) {o k2 : Nat} (hk2 : k + o = k2) (hj : j < N) (hq : qs[j]? = some (o + 2)) (hlk : Cond.fieldLink own index C (T j).2.1 (T j).2.2.1 ∈ wsG) (hdg : decode cc pc = .ok (.getfield index, 3))
    (kk : W p l e R s m args below meth c H locs cells slots Q (F0 m (pc + 3) ls (.ref (za Z k2) :: rest))) : W p l e R s m args below meth c H locs cells slots Q (F0 m pc ls (.ref (za Z k) :: rest)) := by
  subst hk2
  obtain ⟨⟨hx, hb, -, hown, hts⟩, hK, -⟩ := G
  obtain ⟨i, -, hi⟩ := pW_at h.2
  have he := hi S
  rw [pcel_o h.1] at he
  refine va_get hx hb hts hc.2.1 hown hK hw.1 i he hc.1 j hj (hts _ hlk) (fun x hx => ?_) (v := .ref (za Z (k + o))) (by rw [pfs_get, hq]; simp [pfv]) hdg kk
  rw [hc.2.2.2.2 j hj] at hx
  exact hx
/-- getfield of a reference that may be null or change -/
theorem gM (G : Cx p s m args c own cc nL Z) (hw : Wd Z s S H locs) (h : isA Z (.inr (ci, qs)) k) (hc : CK ci C T N ty) (j : Nat) (hj : j < N) (hq : qs[j]? = some 1) (hlk : Cond.fieldLink own index C (T j).2.1 (T j).2.2.1 ∈ wsG) (hdg : decode cc pc = .ok (.getfield index, 3))
    (kk : W p l e R s m args below meth c H locs cells slots Q (F0 m (pc + 3) ls (va_rf ((pmu (S k j)).map (za Z)) :: rest))) : W p l e R s m args below meth c H locs cells slots Q (F0 m pc ls (.ref (za Z k) :: rest)) := by
  obtain ⟨⟨hx, hb, -, hown, hts⟩, hK, -⟩ := G
  obtain ⟨i, -, hi⟩ := pW_at h.2
  have he := hi S
  rw [pcel_o h.1] at he
  refine va_get hx hb hts hc.2.1 hown hK hw.1 i he hc.1 j hj (hts _ hlk) (fun x hx => ?_) (v := va_rf ((pmu (S k j)).map (za Z))) (by rw [pfs_get, hq]; simp [pfv]) hdg kk
  rw [hc.2.2.2.2 j hj] at hx
  exact hx
/-- putfield of any field that isn't final: the value as the new state has it -/
theorem pG (G : Cx p s m args c own cc nL Z) (hw : Wd Z s S H locs) (h : isA Z (.inr (ci, qs)) k) (hc : CK ci C T N ty) (j : Nat) {q : Nat} (hj : j < N) (hq : qs[j]? = some q) {x : Int32} {v : Value} (hv : v = pfv (za Z) (upd (S k) j x) k j q) (hn : narrow (ty j) v = v) (hf : fits (ty j) v = true) (hfin : (T j).2.2.2 = false) (hS2 : S2 = sU S k j x) (hlk : Cond.fieldLink own index C (T j).2.1 (T j).2.2.1 ∈ wsG) (hdg : decode cc pc = .ok (.putfield index, 3))
    (kk : ∀ (H1 : Heap) (locs1 : List Loc), Wd Z s S2 H1 locs1 → W p l e R s m args below meth c H1 locs1 cells slots Q (F0 m (pc + 3) ls rest)) : W p l e R s m args below meth c H locs cells slots Q (F0 m pc ls (v :: .ref (za Z k) :: rest)) := by
  obtain ⟨⟨hx, hb, -, hown, hts⟩, hK, -⟩ := G
  obtain ⟨i, hiL, hi⟩ := pW_at h.2
  have he := hi S
  rw [pcel_o h.1] at he
  have hl : j < (pfs (za Z) (S k) k 0 qs).length := by rw [pfs_len]; exact (List.getElem?_eq_some_iff.mp hq).1
  refine va_put hx hb hts hc.2.1 ty hc.2.2.1 hc.2.2.2.1 hown hK hw.1 hw.2.1 hw.2.2 i he hc.1 j hj (hts _ hlk) (fun x hx => ?_) hfin (hc.2.2.1 j hj) hn hf hl hdg (fun H1 locs1 hP hD hS1 => kk H1 locs1 ?_)
  · rw [hc.2.2.2.2 j hj] at hx
    exact hx
  · have e : (pW Z S).set i (za Z k, .inr (ci, (pfs (za Z) (S k) k 0 qs).set j v)) = pW Z S2 := pW_set hw.2.1 hiL (fun k' hk' => by rw [hS2]; exact sU_ne hk') (by rw [pcel_o h.1, hS2, sU_at, pfs_set hq hv])
    rw [e] at hP hD
    exact ⟨hP, hD, hS1⟩
/-- putfield of an int -/
theorem pI (G : Cx p s m args c own cc nL Z) (hw : Wd Z s S H locs) (h : isA Z (.inr (ci, qs)) k) (hc : CK ci C T N ty) (j : Nat) (hj : j < N) (hq : qs[j]? = some 0) {x : Int32} (hty : ty j = .int) (hfin : (T j).2.2.2 = false) (hS2 : S2 = sU S k j x) (hlk : Cond.fieldLink own index C (T j).2.1 (T j).2.2.1 ∈ wsG) (hdg : decode cc pc = .ok (.putfield index, 3))
    (kk : ∀ (H1 : Heap) (locs1 : List Loc), Wd Z s S2 H1 locs1 → W p l e R s m args below meth c H1 locs1 cells slots Q (F0 m (pc + 3) ls rest)) : W p l e R s m args below meth c H locs cells slots Q (F0 m pc ls (.int x :: .ref (za Z k) :: rest)) :=
  pG G hw h hc j hj hq (by simp [pfv, upd]) (by rw [hty]; rfl) (by rw [hty]; rfl) hfin hS2 hlk hdg kk
/-- an int array's element -/
theorem aI (G : Cx p s m args c own cc nL Z) (hw : Wd Z s S H locs) {n : Nat} (h : isA Z (.inl (0, n)) k) {i : Int32} (hin : vp_in i n) {j : Nat} (hj : i.toNatClampNeg = j) (hdg : decode cc pc = .ok (.iaload, 1))
    (kk : W p l e R s m args below meth c H locs cells slots Q (F0 m (pc + 1) ls (.int (S k j) :: rest))) : W p l e R s m args below meth c H locs cells slots Q (F0 m pc ls (.int i :: .ref (za Z k) :: rest)) := by
  obtain ⟨⟨hx, hb, -, hown, hts⟩, hK, -⟩ := G
  obtain ⟨i0, -, hi⟩ := pW_at h.2
  have he := hi S
  rw [pcel_a h.1] at he
  subst hj
  exact va_iald hx hb hK hw.1 i0 0 (f := S k) he rfl hin hdg kk
theorem aB (G : Cx p s m args c own cc nL Z) (hw : Wd Z s S H locs) {n : Nat} (h : isA Z (.inl (1, n)) k) {i : Int32} (hin : vp_in i n) {j : Nat} (hj : i.toNatClampNeg = j) (hdg : decode cc pc = .ok (.baload, 1))
    (kk : W p l e R s m args below meth c H locs cells slots Q (F0 m (pc + 1) ls (.int (S k j) :: rest))) : W p l e R s m args below meth c H locs cells slots Q (F0 m pc ls (.int i :: .ref (za Z k) :: rest)) := by
  obtain ⟨⟨hx, hb, -, hown, hts⟩, hK, -⟩ := G
  obtain ⟨i0, -, hi⟩ := pW_at h.2
  have he := hi S
  rw [pcel_a h.1] at he
  subst hj
  exact va_bald hx hb hK hw.1 i0 1 (f := S k) he rfl hin hdg kk
theorem aZ (G : Cx p s m args c own cc nL Z) (hw : Wd Z s S H locs) {n : Nat} (h : isA Z (.inl (2, n)) k) {i : Int32} (hin : vp_in i n) {j : Nat} (hj : i.toNatClampNeg = j) (hdg : decode cc pc = .ok (.baload, 1))
    (kk : W p l e R s m args below meth c H locs cells slots Q (F0 m (pc + 1) ls (.int (S k j) :: rest))) : W p l e R s m args below meth c H locs cells slots Q (F0 m pc ls (.int i :: .ref (za Z k) :: rest)) := by
  obtain ⟨⟨hx, hb, -, hown, hts⟩, hK, -⟩ := G
  obtain ⟨i0, -, hi⟩ := pW_at h.2
  have he := hi S
  rw [pcel_a h.1] at he
  subst hj
  exact va_zald hx hb hK hw.1 i0 2 (f := S k) he rfl hin hdg kk
/-- one of an array of objects -/
theorem aR (G : Cx p s m args c own cc nL Z) (hw : Wd Z s S H locs) {n : Nat} (h : isA Z (.inl (4, n)) k) {i : Int32} (hin : vp_in i n) {j k2 : Nat} (hj : i.toNatClampNeg = j) (hk2 : k + 24 + 2 * j = k2) (hdg : decode cc pc = .ok (.aaload, 1))
    (kk : W p l e R s m args below meth c H locs cells slots Q (F0 m (pc + 1) ls (.ref (za Z k2) :: rest))) : W p l e R s m args below meth c H locs cells slots Q (F0 m pc ls (.int i :: .ref (za Z k) :: rest)) := by
  obtain ⟨⟨hx, hb, -, hown, hts⟩, hK, -⟩ := G
  obtain ⟨i0, -, hi⟩ := pW_at h.2
  have he := hi S
  rw [pcel_a h.1] at he
  subst hk2
  subst hj
  exact va_aldq hx hb hK hw.1 i0 4 (C := RX8) (f := fun j => some (za Z (k + 24 + 2 * j))) he rfl hin hdg kk
/-- one of an array of int arrays -/
theorem aG (G : Cx p s m args c own cc nL Z) (hw : Wd Z s S H locs) {n : Nat} (h : isA Z (.inl (5, n)) k) {i : Int32} (hin : vp_in i n) {j k2 : Nat} (hj : i.toNatClampNeg = j) (hk2 : k + 1 + j = k2) (hdg : decode cc pc = .ok (.aaload, 1))
    (kk : W p l e R s m args below meth c H locs cells slots Q (F0 m (pc + 1) ls (.ref (za Z k2) :: rest))) : W p l e R s m args below meth c H locs cells slots Q (F0 m pc ls (.int i :: .ref (za Z k) :: rest)) := by
  obtain ⟨⟨hx, hb, -, hown, hts⟩, hK, -⟩ := G
  obtain ⟨i0, -, hi⟩ := pW_at h.2
  have he := hi S
  rw [pcel_a h.1] at he
  subst hk2
  subst hj
  have hlt : i.toNatClampNeg < n := Nat.not_le.mp fun q => hin (Or.inr q)
  have ht : (tyL Z)[5]? = some (zd Z 5, .array .int) := rfl
  exact W.aald (v := va_rf (some (za Z (k + 1 + i.toNatClampNeg)))) (ty := .array .int) hx hb (hw.1 i0 _ he) ((hK.2 5 _ ht).1 n (fun j => va_rf (some (za Z (k + 1 + j))))) rfl (fun q => by cases q) (by show ¬ (i < 0 ∨ (arrV _ _ _).slots.size ≤ _); rw [arrV_size]; exact hin) (by show (arrV _ _ _).slots[_]? = _; rw [arrV_read _ _ hlt]) rfl rfl hdg kk
theorem aJ (G : Cx p s m args c own cc nL Z) (hw : Wd Z s S H locs) {n : Nat} (h : isA Z (.inl (3, n)) k) {i : Int32} (hin : vp_in i n) {j : Nat} (hj : i.toNatClampNeg = j) (hdg : decode cc pc = .ok (.laload, 1))
    (kk : W p l e R s m args below meth c H locs cells slots Q (F0 m (pc + 1) ls (.long (pjn (S k (2 * j)) (S k (2 * j + 1))) :: rest))) : W p l e R s m args below meth c H locs cells slots Q (F0 m pc ls (.int i :: .ref (za Z k) :: rest)) := by
  obtain ⟨⟨hx, hb, -, hown, hts⟩, hK, -⟩ := G
  obtain ⟨i0, -, hi⟩ := pW_at h.2
  have he := hi S
  rw [pcel_a h.1] at he
  subst hj
  exact va_lald hx hb hK hw.1 i0 3 (f := fun j => pjn (S k (2 * j)) (S k (2 * j + 1))) he rfl hin hdg kk
theorem sI (G : Cx p s m args c own cc nL Z) (hw : Wd Z s S H locs) {n : Nat} (h : isA Z (.inl (0, n)) k) {i x : Int32} (hin : vp_in i n) {j : Nat} (hj : i.toNatClampNeg = j) (hS2 : S2 = sU S k j x) (hdg : decode cc pc = .ok (.iastore, 1))
    (kk : ∀ (H1 : Heap) (locs1 : List Loc), Wd Z s S2 H1 locs1 → W p l e R s m args below meth c H1 locs1 cells slots Q (F0 m (pc + 1) ls rest)) : W p l e R s m args below meth c H locs cells slots Q (F0 m pc ls (.int x :: .int i :: .ref (za Z k) :: rest)) := by
  obtain ⟨⟨hx, hb, -, hown, hts⟩, hK, -⟩ := G
  obtain ⟨i0, hiL, hi⟩ := pW_at h.2
  have he := hi S
  rw [pcel_a h.1] at he
  subst hj
  refine va_iast hx hb hK hw.1 hw.2.1 hw.2.2 i0 0 (f := S k) he rfl hin hdg (fun H1 locs1 hP hD hS1 => kk H1 locs1 ?_)
  rw [pW_set hw.2.1 hiL (S' := S2) (fun k' hk' => by rw [hS2]; exact sU_ne hk') (by rw [pcel_a h.1, hS2, sU_at]; rfl)] at hP hD
  exact ⟨hP, hD, hS1⟩
theorem sB (G : Cx p s m args c own cc nL Z) (hw : Wd Z s S H locs) {n : Nat} (h : isA Z (.inl (1, n)) k) {i x : Int32} (hin : vp_in i n) {j : Nat} (hj : i.toNatClampNeg = j) (hS2 : S2 = sU S k j x.toInt8.toInt32) (hdg : decode cc pc = .ok (.bastore, 1))
    (kk : ∀ (H1 : Heap) (locs1 : List Loc), Wd Z s S2 H1 locs1 → W p l e R s m args below meth c H1 locs1 cells slots Q (F0 m (pc + 1) ls rest)) : W p l e R s m args below meth c H locs cells slots Q (F0 m pc ls (.int x :: .int i :: .ref (za Z k) :: rest)) := by
  obtain ⟨⟨hx, hb, -, hown, hts⟩, hK, -⟩ := G
  obtain ⟨i0, hiL, hi⟩ := pW_at h.2
  have he := hi S
  rw [pcel_a h.1] at he
  subst hj
  refine va_bast hx hb hK hw.1 hw.2.1 hw.2.2 i0 1 (f := S k) he rfl hin hdg (fun H1 locs1 hP hD hS1 => kk H1 locs1 ?_)
  rw [pW_set hw.2.1 hiL (S' := S2) (fun k' hk' => by rw [hS2]; exact sU_ne hk') (by rw [pcel_a h.1, hS2, sU_at]; rfl)] at hP hD
  exact ⟨hP, hD, hS1⟩
theorem sZ (G : Cx p s m args c own cc nL Z) (hw : Wd Z s S H locs) {n : Nat} (h : isA Z (.inl (2, n)) k) {i x : Int32} (hin : vp_in i n) {j : Nat} (hj : i.toNatClampNeg = j) (hS2 : S2 = sU S k j (x &&& 1)) (hdg : decode cc pc = .ok (.bastore, 1))
    (kk : ∀ (H1 : Heap) (locs1 : List Loc), Wd Z s S2 H1 locs1 → W p l e R s m args below meth c H1 locs1 cells slots Q (F0 m (pc + 1) ls rest)) : W p l e R s m args below meth c H locs cells slots Q (F0 m pc ls (.int x :: .int i :: .ref (za Z k) :: rest)) := by
  obtain ⟨⟨hx, hb, -, hown, hts⟩, hK, -⟩ := G
  obtain ⟨i0, hiL, hi⟩ := pW_at h.2
  have he := hi S
  rw [pcel_a h.1] at he
  subst hj
  refine va_zast hx hb hK hw.1 hw.2.1 hw.2.2 i0 2 (f := S k) he rfl hin hdg (fun H1 locs1 hP hD hS1 => kk H1 locs1 ?_)
  rw [pW_set hw.2.1 hiL (S' := S2) (fun k' hk' => by rw [hS2]; exact sU_ne hk') (by rw [pcel_a h.1, hS2, sU_at]; rfl)] at hP hD
  exact ⟨hP, hD, hS1⟩
/-- the length of an array of known kind -/
theorem aL (G : Cx p s m args c own cc nL Z) (hw : Wd Z s S H locs) {t n : Nat} (h : isA Z (.inl (t, n)) k) {ft : FieldType} (ht : (tyL Z)[t]? = some (zd Z t, ft)) {v : Int32} (hv : Int32.ofNat n = v) (hdg : decode cc pc = .ok (.arraylength, 1))
    (kk : W p l e R s m args below meth c H locs cells slots Q (F0 m (pc + 1) ls (.int v :: rest))) : W p l e R s m args below meth c H locs cells slots Q (F0 m pc ls (.ref (za Z k) :: rest)) := by
  obtain ⟨⟨hx, hb, -, hown, hts⟩, hK, -⟩ := G
  obtain ⟨i0, -, hi⟩ := pW_at h.2
  have he := hi S
  rw [pcel_a h.1] at he
  exact va_alen hx hb hK hw.1 i0 t he ht hv hdg kk
/-- what a call of a method takes from the tables -/
def CWV (own : String) (index : Nat) (C : String) (y : MethodName) (cy : ByteArray) (mL : Nat) (ret : Option FieldType) (n : Nat) : Prop := GoodIn wsG (wsV own index C y (.code y cy mL ret :: wsG)) ∧ y.cls = C ∧ y.cls ≠ "java/lang/invoke/MethodHandle" ∧ y.cls ≠ "java/lang/invoke/VarHandle" ∧ (parseMethodDescriptor y.desc).map (fun d => d.parameters.length) = some n
def CWS (own : String) (index : Nat) (y : MethodName) (cy : ByteArray) (mL : Nat) (ret : Option FieldType) (n : Nat) : Prop := GoodIn wsG (wsS own index y (.code y cy mL ret :: wsG)) ∧ y.cls = own ∧ y.cls ≠ "java/lang/invoke/MethodHandle" ∧ y.cls ≠ "java/lang/invoke/VarHandle" ∧ (parseMethodDescriptor y.desc).map (fun d => d.parameters.length) = some n
def CWN (own : String) (index : Nat) (y : MethodName) (cy : ByteArray) (mL : Nat) (ret : Option FieldType) (n : Nat) : Prop := (Cond.code y cy mL ret ∈ wsG ∧ Cond.static y ∈ wsG ∧ Cond.initialized y.cls ∈ wsG ∧ (own, index, y, RX11) ∈ nestL) ∧ y.cls ≠ "java/lang/invoke/MethodHandle" ∧ y.cls ≠ "java/lang/invoke/VarHandle" ∧ (parseMethodDescriptor y.desc).map (fun d => d.parameters.length) = some n
theorem wsG_good {w : Cond} (h : w ∈ wsG) : w ∈ wsG ∧ ((w.onTables && w.keeps) = true ∨ ∃ ty, w = .arrayClass ty) := ⟨h, good_of_word (wsG_ok h)⟩
theorem cwv (h1 : Cond.methodLink own index y ∈ wsG) (h2 : Cond.instanceMethod y ∈ wsG) (h3 : Cond.selects C y y ∈ wsG) (h4 : Cond.initialized C ∈ wsG) (h5 : Cond.code y cy mL ret ∈ wsG) (hd : y.cls = C ∧ y.cls ≠ "java/lang/invoke/MethodHandle" ∧ y.cls ≠ "java/lang/invoke/VarHandle" ∧ (parseMethodDescriptor y.desc).map (fun d => d.parameters.length) = some n) : CWV own index C y cy mL ret n := by
  refine ⟨fun w hw => wsG_good ?_, hd⟩
  simp only [wsV, List.cons_append, List.nil_append, List.mem_cons] at hw
  rcases hw with rfl | rfl | rfl | rfl | rfl | hw <;> assumption
theorem cws (h1 : Cond.methodLink own index y ∈ wsG) (h2 : Cond.static y ∈ wsG) (h4 : Cond.initialized own ∈ wsG) (h5 : Cond.code y cy mL ret ∈ wsG) (hd : y.cls = own ∧ y.cls ≠ "java/lang/invoke/MethodHandle" ∧ y.cls ≠ "java/lang/invoke/VarHandle" ∧ (parseMethodDescriptor y.desc).map (fun d => d.parameters.length) = some n) : CWS own index y cy mL ret n := by
  refine ⟨fun w hw => wsG_good ?_, hd⟩
  simp only [wsS, List.cons_append, List.nil_append, List.mem_cons] at hw
  rcases hw with rfl | rfl | rfl | rfl | hw <;> assumption
theorem Wd_call (hw : Wd Z s S H locs) {H1 : Heap} {locs1 : List Loc} (hP : va_P (zD Z) vwCl (pW Z S2) H1) (hS : va_S (pA Z s.heap.size) s.heap H1 locs1) : Wd Z s S2 H1 locs1 := ⟨hP, pW_D hw.2.1, hS⟩
theorem preV (G : Cx p s m args c own cc nL Z) (hw : Wd Z s S H locs) (h : isA Z (.inr (ci, qs)) k) (hk : CK ci C T N ty) : PreV s H C (za Z k) (va_Pc (.ref (za Z k) :: As) (fun U => U.heap.size = H.size ∧ Wo Z S U)) As := by
  obtain ⟨i0, -, hi⟩ := pW_at h.2
  have he := hi S
  rw [pcel_o h.1] at he
  exact ⟨blind, va_recv G.2.1 hw.1 hk.1 he, fun U hU hW => ⟨rfl, by rw [hU], Wo_of G hw hU hW⟩⟩
theorem preS (G : Cx p s m args c own cc nL Z) (hw : Wd Z s S H locs) : PreS s H (va_Pc As (fun U => U.heap.size = H.size ∧ Wo Z S U)) As := ⟨blind, fun U hU hW => ⟨rfl, by rw [hU], Wo_of G hw hU hW⟩⟩
theorem kVi (G : Cx p s m args c own cc nL Z) (hw : Wd Z s S H locs) {r : Int32} (hM : CI l Z y cy mL rt fr lo (.ref (za Z k) :: As) S r S2) (hcw : CWV own index C y cy mL (some rt) n) (h : isA Z (.inr (ci, qs)) k) (hk : CK ci C T N ty) (hR : fr + 1 ≤ R.frames ∧ 8 + (mL + 11) + lo ≤ R.locals) (hn : As.length = n) (hls : ls.size = nL) (hst : st0 = As.reverse ++ .ref (za Z k) :: rest) (hrm : (rest.map fun v => v.category).sum ≤ 8) (hcs : cells + 0 ≤ R.cells ∧ slots + 0 ≤ R.slots) (hdg : decode cc pc = .ok (.invokevirtual index, 3))
    (kk : ∀ (H1 : Heap) (locs1 : List Loc), Wd Z s S2 H1 locs1 → W p l e R s m args below meth c H1 locs1 cells slots Q (F0 m (pc + 3) ls (.int r :: rest))) : W p l e R s m args below meth c H locs cells slots Q (F0 m pc ls st0) := by
  refine va_calli (va_runV (rest := rest) G.1 (hM H.size) (cwV n G.1.2.2.2.2 hcw.1 rfl rfl rfl hcw.2 hR) (preV G hw h hk) rfl hn hls hst (lv_room hrm) hdg hcs) hw.2.2 (fun q _ hq => pA_mono hw.2.2.1 hq) (fun q hq => pA_mono hw.2.2.1 hq) (fun r' u t H1 locs1 ht hvm hr hB hz hk1 hS1 => ?_)
  subst hr
  exact kk H1 locs1 (Wd_call hw (by rw [← ht]; exact hB) hS1)
theorem kVl (G : Cx p s m args c own cc nL Z) (hw : Wd Z s S H locs) {r : Int64} (hM : CL l Z y cy mL fr lo (.ref (za Z k) :: As) S r S2) (hcw : CWV own index C y cy mL (some .long) n) (h : isA Z (.inr (ci, qs)) k) (hk : CK ci C T N ty) (hR : fr + 1 ≤ R.frames ∧ 8 + (mL + 11) + lo ≤ R.locals) (hn : As.length = n) (hls : ls.size = nL) (hst : st0 = As.reverse ++ .ref (za Z k) :: rest) (hrm : (rest.map fun v => v.category).sum ≤ 8) (hcs : cells + 0 ≤ R.cells ∧ slots + 0 ≤ R.slots) (hdg : decode cc pc = .ok (.invokevirtual index, 3))
    (kk : ∀ (H1 : Heap) (locs1 : List Loc), Wd Z s S2 H1 locs1 → W p l e R s m args below meth c H1 locs1 cells slots Q (F0 m (pc + 3) ls (.long r :: rest))) : W p l e R s m args below meth c H locs cells slots Q (F0 m pc ls st0) := by
  refine va_calll (va_runV (rest := rest) G.1 (hM H.size) (cwV n G.1.2.2.2.2 hcw.1 rfl rfl rfl hcw.2 hR) (preV G hw h hk) rfl hn hls hst (lv_room hrm) hdg hcs) hw.2.2 (fun q _ hq => pA_mono hw.2.2.1 hq) (fun q hq => pA_mono hw.2.2.1 hq) (fun r' u t H1 locs1 ht hvm hr hB hz hk1 hS1 => ?_)
  subst hr
  exact kk H1 locs1 (Wd_call hw (by rw [← ht]; exact hB) hS1)
theorem kVv (G : Cx p s m args c own cc nL Z) (hw : Wd Z s S H locs) (hM : CV l Z y cy mL fr lo (.ref (za Z k) :: As) S S2) (hcw : CWV own index C y cy mL none n) (h : isA Z (.inr (ci, qs)) k) (hk : CK ci C T N ty) (hR : fr + 1 ≤ R.frames ∧ 8 + (mL + 11) + lo ≤ R.locals) (hn : As.length = n) (hls : ls.size = nL) (hst : st0 = As.reverse ++ .ref (za Z k) :: rest) (hrm : (rest.map fun v => v.category).sum ≤ 8) (hcs : cells + 0 ≤ R.cells ∧ slots + 0 ≤ R.slots) (hdg : decode cc pc = .ok (.invokevirtual index, 3))
    (kk : ∀ (H1 : Heap) (locs1 : List Loc), Wd Z s S2 H1 locs1 → W p l e R s m args below meth c H1 locs1 cells slots Q (F0 m (pc + 3) ls rest)) : W p l e R s m args below meth c H locs cells slots Q (F0 m pc ls st0) := by
  refine va_callv (va_runV (rest := rest) G.1 (hM H.size) (cwV n G.1.2.2.2.2 hcw.1 rfl rfl rfl hcw.2 hR) (preV G hw h hk) rfl hn hls hst (lv_room hrm) hdg hcs) hw.2.2 (fun q _ hq => pA_mono hw.2.2.1 hq) (fun q hq => pA_mono hw.2.2.1 hq) (fun u t H1 locs1 ht hvm hr hB hz hk1 hS1 => ?_)
  exact kk H1 locs1 (Wd_call hw (by rw [← ht]; exact hB) hS1)
theorem kVq (G : Cx p s m args c own cc nL Z) (hw : Wd Z s S H locs) {r : Option Nat} (hM : CQ l Z y cy mL rt fr lo (.ref (za Z k) :: As) S r S2) (hcw : CWV own index C y cy mL (some rt) n) (h : isA Z (.inr (ci, qs)) k) (hk : CK ci C T N ty) (hR : fr + 1 ≤ R.frames ∧ 8 + (mL + 11) + lo ≤ R.locals) (hn : As.length = n) (hls : ls.size = nL) (hst : st0 = As.reverse ++ .ref (za Z k) :: rest) (hrm : (rest.map fun v => v.category).sum ≤ 8) (hcs : cells + 0 ≤ R.cells ∧ slots + 0 ≤ R.slots) (hdg : decode cc pc = .ok (.invokevirtual index, 3))
    (kk : ∀ (H1 : Heap) (locs1 : List Loc), Wd Z s S2 H1 locs1 → W p l e R s m args below meth c H1 locs1 cells slots Q (F0 m (pc + 3) ls (va_rf (r.map (za Z)) :: rest))) : W p l e R s m args below meth c H locs cells slots Q (F0 m pc ls st0) := by
  refine va_callq (va_runV (rest := rest) G.1 (hM H.size) (cwV n G.1.2.2.2.2 hcw.1 rfl rfl rfl hcw.2 hR) (preV G hw h hk) rfl hn hls hst (lv_room hrm) hdg hcs) hw.2.2 (fun q _ hq => pA_mono hw.2.2.1 hq) (fun q hq => pA_mono hw.2.2.1 hq) (fun r' u t H1 locs1 ht hvm hr hB hz hk1 hS1 => ?_)
  subst hr
  exact kk H1 locs1 (Wd_call hw (by rw [← ht]; exact hB) hS1)
theorem kSi (G : Cx p s m args c own cc nL Z) (hw : Wd Z s S H locs) {r : Int32} (hM : CI l Z y cy mL rt fr lo As S r S2) (hcw : CWS own index y cy mL (some rt) n) (hR : fr + 1 ≤ R.frames ∧ 8 + (mL + 11) + lo ≤ R.locals) (hn : As.length = n) (hls : ls.size = nL) (hst : st0 = As.reverse ++ rest) (hrm : (rest.map fun v => v.category).sum ≤ 8) (hcs : cells + 0 ≤ R.cells ∧ slots + 0 ≤ R.slots) (hdg : decode cc pc = .ok (.invokestatic index, 3))
    (kk : ∀ (H1 : Heap) (locs1 : List Loc), Wd Z s S2 H1 locs1 → W p l e R s m args below meth c H1 locs1 cells slots Q (F0 m (pc + 3) ls (.int r :: rest))) : W p l e R s m args below meth c H locs cells slots Q (F0 m pc ls st0) := by
  refine va_calli (va_runS (rest := rest) G.1 (hM H.size) (cwS n G.1.2.2.2.2 hcw.1 rfl rfl rfl hcw.2 hR) (preS G hw) rfl hn hls hst (lv_room hrm) hdg hcs) hw.2.2 (fun q _ hq => pA_mono hw.2.2.1 hq) (fun q hq => pA_mono hw.2.2.1 hq) (fun r' u t H1 locs1 ht hvm hr hB hz hk1 hS1 => ?_)
  subst hr
  exact kk H1 locs1 (Wd_call hw (by rw [← ht]; exact hB) hS1)
theorem kSv (G : Cx p s m args c own cc nL Z) (hw : Wd Z s S H locs) (hM : CV l Z y cy mL fr lo As S S2) (hcw : CWS own index y cy mL none n) (hR : fr + 1 ≤ R.frames ∧ 8 + (mL + 11) + lo ≤ R.locals) (hn : As.length = n) (hls : ls.size = nL) (hst : st0 = As.reverse ++ rest) (hrm : (rest.map fun v => v.category).sum ≤ 8) (hcs : cells + 0 ≤ R.cells ∧ slots + 0 ≤ R.slots) (hdg : decode cc pc = .ok (.invokestatic index, 3))
    (kk : ∀ (H1 : Heap) (locs1 : List Loc), Wd Z s S2 H1 locs1 → W p l e R s m args below meth c H1 locs1 cells slots Q (F0 m (pc + 3) ls rest)) : W p l e R s m args below meth c H locs cells slots Q (F0 m pc ls st0) := by
  refine va_callv (va_runS (rest := rest) G.1 (hM H.size) (cwS n G.1.2.2.2.2 hcw.1 rfl rfl rfl hcw.2 hR) (preS G hw) rfl hn hls hst (lv_room hrm) hdg hcs) hw.2.2 (fun q _ hq => pA_mono hw.2.2.1 hq) (fun q hq => pA_mono hw.2.2.1 hq) (fun u t H1 locs1 ht hvm hr hB hz hk1 hS1 => ?_)
  exact kk H1 locs1 (Wd_call hw (by rw [← ht]; exact hB) hS1)
/-- a private static method of a nest mate -/
theorem kNi (G : Cx p s m args c own cc nL Z) (hw : Wd Z s S H locs) {r : Int32} (hM : CI l Z y cy mL rt fr lo As S r S2) (hcw : CWN own index y cy mL (some rt) n) (hR : fr + 1 ≤ R.frames ∧ 8 + (mL + 11) + lo ≤ R.locals) (hn : As.length = n) (hls : ls.size = nL) (hst : st0 = As.reverse ++ rest) (hrm : (rest.map fun v => v.category).sum ≤ 8) (hcs : cells + 0 ≤ R.cells ∧ slots + 0 ≤ R.slots) (hdg : decode cc pc = .ok (.invokestatic index, 3))
    (kk : ∀ (H1 : Heap) (locs1 : List Loc), Wd Z s S2 H1 locs1 → W p l e R s m args below meth c H1 locs1 cells slots Q (F0 m (pc + 3) ls (.int r :: rest))) : W p l e R s m args below meth c H locs cells slots Q (F0 m pc ls st0) := by
  obtain ⟨⟨h1, h2, h3, h4⟩, hd⟩ := hcw
  have hts := G.1.2.2.2.2
  have hG : GoodIn wsG (.code y cy mL (some rt) :: wsG) := fun w hw => wsG_good (by rcases List.mem_cons.mp hw with rfl | q <;> assumption)
  refine va_calli (va_runSN (rest := rest) G.1 (hM H.size) ⟨va_cnB n hts hG rfl rfl rfl (G.2.2.1 _ h4) (hts _ h3) hd hR, hts _ h2, trivial⟩ (preS G hw) rfl hn hls hst (lv_room hrm) hdg hcs) hw.2.2 (fun q _ hq => pA_mono hw.2.2.1 hq) (fun q hq => pA_mono hw.2.2.1 hq) (fun r' u t H1 locs1 ht hvm hr hB hz hk1 hS1 => ?_)
  subst hr
  exact kk H1 locs1 (Wd_call hw (by rw [← ht]; exact hB) hS1)
end PF
