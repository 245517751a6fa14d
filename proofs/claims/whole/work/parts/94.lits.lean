/-! the String constants at the law's entry -/
def litSt : List Nat := [7, 91, 207, 174, 337, 345, 353, 360, 369, 377, 383, 393, 402, 410, 418, 426, 433, 441, 449, 457, 465, 292, 474, 483, 494, 503, 513, 521, 530, 538, 546, 555, 261, 270, 278, 284, 300, 309, 317, 323, 330]
def litT (i : Nat) : Term := .string (litR.getD i ("", 0, "", 0)).1 (litR.getD i ("", 0, "", 0)).2.1
def litV (i : Nat) : Term := .field (litT i) "java/lang/String" "value" "[B"
def litC (i : Nat) : List Cond := [.exactly (litT i) "java/lang/String", .eq (.field (litT i) "java/lang/String" "coder" "B") (.int 0), .arrayOf (litV i) .byte, .eq (.length (litV i)) (.int (Int32.ofNat (litLen.getD i 0)))] ++ (List.range (litLen.getD i 0)).map (fun j => .eq (.elem (litV i) (.int (Int32.ofNat j))) (.int ((litByt.getD i []).getD j 0)))
theorem lit_0 : ((flatC narrow_1).drop 7).take (4 + litLen.getD 0 0) = litC 0 := by decide +kernel
theorem lit_1 : ((flatC narrow_1).drop 91).take (4 + litLen.getD 1 0) = litC 1 := by decide +kernel
theorem lit_2 : ((flatC narrow_1).drop 207).take (4 + litLen.getD 2 0) = litC 2 := by decide +kernel
theorem lit_3 : ((flatC narrow_1).drop 174).take (4 + litLen.getD 3 0) = litC 3 := by decide +kernel
theorem lit_4 : ((flatC narrow_1).drop 337).take (4 + litLen.getD 4 0) = litC 4 := by decide +kernel
theorem lit_5 : ((flatC narrow_1).drop 345).take (4 + litLen.getD 5 0) = litC 5 := by decide +kernel
theorem lit_6 : ((flatC narrow_1).drop 353).take (4 + litLen.getD 6 0) = litC 6 := by decide +kernel
theorem lit_7 : ((flatC narrow_1).drop 360).take (4 + litLen.getD 7 0) = litC 7 := by decide +kernel
theorem lit_8 : ((flatC narrow_1).drop 369).take (4 + litLen.getD 8 0) = litC 8 := by decide +kernel
theorem lit_9 : ((flatC narrow_1).drop 377).take (4 + litLen.getD 9 0) = litC 9 := by decide +kernel
theorem lit_10 : ((flatC narrow_1).drop 383).take (4 + litLen.getD 10 0) = litC 10 := by decide +kernel
theorem lit_11 : ((flatC narrow_1).drop 393).take (4 + litLen.getD 11 0) = litC 11 := by decide +kernel
theorem lit_12 : ((flatC narrow_1).drop 402).take (4 + litLen.getD 12 0) = litC 12 := by decide +kernel
theorem lit_13 : ((flatC narrow_1).drop 410).take (4 + litLen.getD 13 0) = litC 13 := by decide +kernel
theorem lit_14 : ((flatC narrow_1).drop 418).take (4 + litLen.getD 14 0) = litC 14 := by decide +kernel
theorem lit_15 : ((flatC narrow_1).drop 426).take (4 + litLen.getD 15 0) = litC 15 := by decide +kernel
theorem lit_16 : ((flatC narrow_1).drop 433).take (4 + litLen.getD 16 0) = litC 16 := by decide +kernel
theorem lit_17 : ((flatC narrow_1).drop 441).take (4 + litLen.getD 17 0) = litC 17 := by decide +kernel
theorem lit_18 : ((flatC narrow_1).drop 449).take (4 + litLen.getD 18 0) = litC 18 := by decide +kernel
theorem lit_19 : ((flatC narrow_1).drop 457).take (4 + litLen.getD 19 0) = litC 19 := by decide +kernel
theorem lit_20 : ((flatC narrow_1).drop 465).take (4 + litLen.getD 20 0) = litC 20 := by decide +kernel
theorem lit_21 : ((flatC narrow_1).drop 292).take (4 + litLen.getD 21 0) = litC 21 := by decide +kernel
theorem lit_22 : ((flatC narrow_1).drop 474).take (4 + litLen.getD 22 0) = litC 22 := by decide +kernel
theorem lit_23 : ((flatC narrow_1).drop 483).take (4 + litLen.getD 23 0) = litC 23 := by decide +kernel
theorem lit_24 : ((flatC narrow_1).drop 494).take (4 + litLen.getD 24 0) = litC 24 := by decide +kernel
theorem lit_25 : ((flatC narrow_1).drop 503).take (4 + litLen.getD 25 0) = litC 25 := by decide +kernel
theorem lit_26 : ((flatC narrow_1).drop 513).take (4 + litLen.getD 26 0) = litC 26 := by decide +kernel
theorem lit_27 : ((flatC narrow_1).drop 521).take (4 + litLen.getD 27 0) = litC 27 := by decide +kernel
theorem lit_28 : ((flatC narrow_1).drop 530).take (4 + litLen.getD 28 0) = litC 28 := by decide +kernel
theorem lit_29 : ((flatC narrow_1).drop 538).take (4 + litLen.getD 29 0) = litC 29 := by decide +kernel
theorem lit_30 : ((flatC narrow_1).drop 546).take (4 + litLen.getD 30 0) = litC 30 := by decide +kernel
theorem lit_31 : ((flatC narrow_1).drop 555).take (4 + litLen.getD 31 0) = litC 31 := by decide +kernel
theorem lit_32 : ((flatC narrow_1).drop 261).take (4 + litLen.getD 32 0) = litC 32 := by decide +kernel
theorem lit_33 : ((flatC narrow_1).drop 270).take (4 + litLen.getD 33 0) = litC 33 := by decide +kernel
theorem lit_34 : ((flatC narrow_1).drop 278).take (4 + litLen.getD 34 0) = litC 34 := by decide +kernel
theorem lit_35 : ((flatC narrow_1).drop 284).take (4 + litLen.getD 35 0) = litC 35 := by decide +kernel
theorem lit_36 : ((flatC narrow_1).drop 300).take (4 + litLen.getD 36 0) = litC 36 := by decide +kernel
theorem lit_37 : ((flatC narrow_1).drop 309).take (4 + litLen.getD 37 0) = litC 37 := by decide +kernel
theorem lit_38 : ((flatC narrow_1).drop 317).take (4 + litLen.getD 38 0) = litC 38 := by decide +kernel
theorem lit_39 : ((flatC narrow_1).drop 323).take (4 + litLen.getD 39 0) = litC 39 := by decide +kernel
theorem lit_40 : ((flatC narrow_1).drop 330).take (4 + litLen.getD 40 0) = litC 40 := by decide +kernel
theorem sr_0 : Cond.stringRef RX11 108 "when or and not lift drag dip drift fore up height pitch wind side soft tip tick" ∈ lw_tbl := mT2 _ (List.mem_of_getElem? (i := 215) (by decide +kernel))
theorem sr_1 : Cond.stringRef RX11 122 "when or and not over wear mend force pace angle wearing power thrown best round" ∈ lw_tbl := mT3 _ (List.mem_of_getElem? (i := 138) (by decide +kernel))
theorem sr_2 : Cond.stringRef RX11 134 "when or and not gain cost balls power wearing week" ∈ lw_tbl := mT3 _ (List.mem_of_getElem? (i := 157) (by decide +kernel))
theorem sr_3 : Cond.stringRef RX5 113 "throw at with pace below pass" ∈ lw_tbl := mT3 _ (List.mem_of_getElem? (i := 143) (by decide +kernel))
theorem sr_4 : Cond.stringRef RX12 117 "lift" ∈ lw_tbl := mT6 _ (List.mem_of_getElem? (i := 166) (by decide +kernel))
theorem sr_5 : Cond.stringRef RX12 123 "drag" ∈ lw_tbl := mT6 _ (List.mem_of_getElem? (i := 167) (by decide +kernel))
theorem sr_6 : Cond.stringRef RX12 125 "dip" ∈ lw_tbl := mT6 _ (List.mem_of_getElem? (i := 168) (by decide +kernel))
theorem sr_7 : Cond.stringRef RX12 127 "drift" ∈ lw_tbl := mT6 _ (List.mem_of_getElem? (i := 169) (by decide +kernel))
theorem sr_8 : Cond.stringRef RX12 129 "fore" ∈ lw_tbl := mT6 _ (List.mem_of_getElem? (i := 170) (by decide +kernel))
theorem sr_9 : Cond.stringRef RX12 131 "up" ∈ lw_tbl := mT6 _ (List.mem_of_getElem? (i := 171) (by decide +kernel))
theorem sr_10 : Cond.stringRef RX12 133 "height" ∈ lw_tbl := mT6 _ (List.mem_of_getElem? (i := 172) (by decide +kernel))
theorem sr_11 : Cond.stringRef RX12 135 "pitch" ∈ lw_tbl := mT6 _ (List.mem_of_getElem? (i := 173) (by decide +kernel))
theorem sr_12 : Cond.stringRef RX12 137 "wind" ∈ lw_tbl := mT6 _ (List.mem_of_getElem? (i := 174) (by decide +kernel))
theorem sr_13 : Cond.stringRef RX12 139 "side" ∈ lw_tbl := mT6 _ (List.mem_of_getElem? (i := 175) (by decide +kernel))
theorem sr_14 : Cond.stringRef RX12 141 "soft" ∈ lw_tbl := mT6 _ (List.mem_of_getElem? (i := 176) (by decide +kernel))
theorem sr_15 : Cond.stringRef RX12 143 "tip" ∈ lw_tbl := mT6 _ (List.mem_of_getElem? (i := 177) (by decide +kernel))
theorem sr_16 : Cond.stringRef RX12 145 "tick" ∈ lw_tbl := mT6 _ (List.mem_of_getElem? (i := 178) (by decide +kernel))
theorem sr_17 : Cond.stringRef RX12 147 "over" ∈ lw_tbl := mT6 _ (List.mem_of_getElem? (i := 183) (by decide +kernel))
theorem sr_18 : Cond.stringRef RX12 149 "wear" ∈ lw_tbl := mT6 _ (List.mem_of_getElem? (i := 184) (by decide +kernel))
theorem sr_19 : Cond.stringRef RX12 151 "mend" ∈ lw_tbl := mT6 _ (List.mem_of_getElem? (i := 185) (by decide +kernel))
theorem sr_20 : Cond.stringRef RX12 153 "force" ∈ lw_tbl := mT6 _ (List.mem_of_getElem? (i := 186) (by decide +kernel))
theorem sr_21 : Cond.stringRef RX12 155 "pace" ∈ lw_tbl := mT6 _ (List.mem_of_getElem? (i := 156) (by decide +kernel))
theorem sr_22 : Cond.stringRef RX12 157 "angle" ∈ lw_tbl := mT6 _ (List.mem_of_getElem? (i := 187) (by decide +kernel))
theorem sr_23 : Cond.stringRef RX12 159 "wearing" ∈ lw_tbl := mT6 _ (List.mem_of_getElem? (i := 188) (by decide +kernel))
theorem sr_24 : Cond.stringRef RX12 161 "power" ∈ lw_tbl := mT6 _ (List.mem_of_getElem? (i := 189) (by decide +kernel))
theorem sr_25 : Cond.stringRef RX12 163 "thrown" ∈ lw_tbl := mT6 _ (List.mem_of_getElem? (i := 190) (by decide +kernel))
theorem sr_26 : Cond.stringRef RX12 165 "best" ∈ lw_tbl := mT6 _ (List.mem_of_getElem? (i := 191) (by decide +kernel))
theorem sr_27 : Cond.stringRef RX12 167 "round" ∈ lw_tbl := mT6 _ (List.mem_of_getElem? (i := 192) (by decide +kernel))
theorem sr_28 : Cond.stringRef RX12 169 "gain" ∈ lw_tbl := mT6 _ (List.mem_of_getElem? (i := 197) (by decide +kernel))
theorem sr_29 : Cond.stringRef RX12 171 "cost" ∈ lw_tbl := mT6 _ (List.mem_of_getElem? (i := 198) (by decide +kernel))
theorem sr_30 : Cond.stringRef RX12 173 "balls" ∈ lw_tbl := mT6 _ (List.mem_of_getElem? (i := 199) (by decide +kernel))
theorem sr_31 : Cond.stringRef RX12 175 "week" ∈ lw_tbl := mT6 _ (List.mem_of_getElem? (i := 200) (by decide +kernel))
theorem sr_32 : Cond.stringRef RX12 177 "throw" ∈ lw_tbl := mT6 _ (List.mem_of_getElem? (i := 146) (by decide +kernel))
theorem sr_33 : Cond.stringRef RX12 179 "pass" ∈ lw_tbl := mT6 _ (List.mem_of_getElem? (i := 153) (by decide +kernel))
theorem sr_34 : Cond.stringRef RX12 181 "at" ∈ lw_tbl := mT6 _ (List.mem_of_getElem? (i := 154) (by decide +kernel))
theorem sr_35 : Cond.stringRef RX12 182 "with" ∈ lw_tbl := mT6 _ (List.mem_of_getElem? (i := 155) (by decide +kernel))
theorem sr_36 : Cond.stringRef RX12 184 "below" ∈ lw_tbl := mT6 _ (List.mem_of_getElem? (i := 157) (by decide +kernel))
theorem sr_37 : Cond.stringRef RX12 192 "when" ∈ lw_tbl := mT6 _ (List.mem_of_getElem? (i := 158) (by decide +kernel))
theorem sr_38 : Cond.stringRef RX12 194 "or" ∈ lw_tbl := mT6 _ (List.mem_of_getElem? (i := 159) (by decide +kernel))
theorem sr_39 : Cond.stringRef RX12 196 "and" ∈ lw_tbl := mT6 _ (List.mem_of_getElem? (i := 160) (by decide +kernel))
theorem sr_40 : Cond.stringRef RX12 198 "not" ∈ lw_tbl := mT6 _ (List.mem_of_getElem? (i := 161) (by decide +kernel))
theorem sr_all : ∀ q ∈ litR, Cond.stringRef q.1 q.2.1 q.2.2.1 ∈ lw_tbl := by
  unfold litR
  simp only [List.forall_mem_cons]
  exact ⟨sr_0, sr_1, sr_2, sr_3, sr_4, sr_5, sr_6, sr_7, sr_8, sr_9, sr_10, sr_11, sr_12, sr_13, sr_14, sr_15, sr_16, sr_17, sr_18, sr_19, sr_20, sr_21, sr_22, sr_23, sr_24, sr_25, sr_26, sr_27, sr_28, sr_29, sr_30, sr_31, sr_32, sr_33, sr_34, sr_35, sr_36, sr_37, sr_38, sr_39, sr_40, fun _ h => absurd h List.not_mem_nil⟩
theorem lit_sub {i n : Nat} {l : List Cond} (h : ((flatC narrow_1).drop n).take i = l) : ∀ w ∈ l, w ∈ flatC narrow_1 := fun w hw => by
  rw [← h] at hw
  exact List.mem_of_mem_drop (List.mem_of_mem_take hw)
theorem lit_all : ∀ i, i < litN → ∀ w ∈ litC i, w ∈ flatC narrow_1 := by
  intro i hi
  match i, hi with
  | 0, _ => exact lit_sub lit_0
  | 1, _ => exact lit_sub lit_1
  | 2, _ => exact lit_sub lit_2
  | 3, _ => exact lit_sub lit_3
  | 4, _ => exact lit_sub lit_4
  | 5, _ => exact lit_sub lit_5
  | 6, _ => exact lit_sub lit_6
  | 7, _ => exact lit_sub lit_7
  | 8, _ => exact lit_sub lit_8
  | 9, _ => exact lit_sub lit_9
  | 10, _ => exact lit_sub lit_10
  | 11, _ => exact lit_sub lit_11
  | 12, _ => exact lit_sub lit_12
  | 13, _ => exact lit_sub lit_13
  | 14, _ => exact lit_sub lit_14
  | 15, _ => exact lit_sub lit_15
  | 16, _ => exact lit_sub lit_16
  | 17, _ => exact lit_sub lit_17
  | 18, _ => exact lit_sub lit_18
  | 19, _ => exact lit_sub lit_19
  | 20, _ => exact lit_sub lit_20
  | 21, _ => exact lit_sub lit_21
  | 22, _ => exact lit_sub lit_22
  | 23, _ => exact lit_sub lit_23
  | 24, _ => exact lit_sub lit_24
  | 25, _ => exact lit_sub lit_25
  | 26, _ => exact lit_sub lit_26
  | 27, _ => exact lit_sub lit_27
  | 28, _ => exact lit_sub lit_28
  | 29, _ => exact lit_sub lit_29
  | 30, _ => exact lit_sub lit_30
  | 31, _ => exact lit_sub lit_31
  | 32, _ => exact lit_sub lit_32
  | 33, _ => exact lit_sub lit_33
  | 34, _ => exact lit_sub lit_34
  | 35, _ => exact lit_sub lit_35
  | 36, _ => exact lit_sub lit_36
  | 37, _ => exact lit_sub lit_37
  | 38, _ => exact lit_sub lit_38
  | 39, _ => exact lit_sub lit_39
  | 40, _ => exact lit_sub lit_40
  | i + 41, hi => exact absurd hi (by unfold litN; omega)
