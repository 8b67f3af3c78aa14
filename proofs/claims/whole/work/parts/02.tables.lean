/-! tables of the classes: fields by number, as the words of tables_1 have them -/
def am_T : List Cond := lw_tbl.filter goodWord
theorem am_in {p : Nat} {w : Cond} (h : tables_1[p]? = some w) (hg : goodWord w = true) : w ∈ am_T := List.mem_filter.mpr ⟨List.mem_append_right _ (List.mem_of_getElem? h), hg⟩
theorem am_inS {p : Nat} {q : MethodName × Nat} (h : lw_privs[p]? = some q) : Cond.selects q.1.cls q.1 q.1 ∈ am_T := List.mem_filter.mpr ⟨List.mem_append_left _ (List.mem_map.mpr ⟨q, List.mem_of_getElem? h, rfl⟩), rfl⟩
theorem am_goodT : GoodIn lw_tbl am_T := fun w hw => ⟨(List.mem_filter.mp hw).1, good_of_word (List.mem_filter.mp hw).2⟩
def am_F0 : u_T := fun k => match k with
  | 0 => ("DrumWorld", "ball", "LDrumWorld$Ball;", true)
  | 1 => ("DrumWorld", "drums", "[LDrumWorld$Drum;", true)
  | 2 => ("DrumWorld", "shakes", "[LDrumWorld$Shake;", true)
  | 3 => ("DrumWorld", "cards", "[LDrumWorld$Card;", true)
  | 4 => ("DrumWorld", "drumCount", "I", false)
  | 5 => ("DrumWorld", "shakeCount", "I", false)
  | 6 => ("DrumWorld", "cardCount", "I", false)
  | 7 => ("DrumWorld", "day", "I", false)
  | 8 => ("DrumWorld", "reader", "LDrumWorld$Reader;", true)
  | 9 => ("DrumWorld", "tape", "LDrumWorld$Tape;", true)
  | 10 => ("DrumWorld", "texts", "[LDrumWorld$Text;", true)
  | 11 => ("DrumWorld", "textCount", "I", false)
  | 12 => ("DrumWorld", "rule", "I", false)
  | 13 => ("DrumWorld", "facts", "[I", true)
  | 14 => ("DrumWorld", "placing", "LDrumWorld$Placing;", true)
  | 15 => ("DrumWorld", "refitFound", "[I", true)
  | 16 => ("DrumWorld", "nearDrums", "[I", true)
  | 17 => ("DrumWorld", "watchFound", "I", false)
  | 18 => ("DrumWorld", "kept", "LDrumWorld$Image;", true)
  | _ => ("DrumWorld", "sheets", "[LDrumWorld$Sheet;", true)
def am_t0 : Nat → FieldType := fun k => match k with
  | 0 => (.object "DrumWorld$Ball")
  | 1 => (.array (.object "DrumWorld$Drum"))
  | 2 => (.array (.object "DrumWorld$Shake"))
  | 3 => (.array (.object "DrumWorld$Card"))
  | 4 => .int
  | 5 => .int
  | 6 => .int
  | 7 => .int
  | 8 => (.object "DrumWorld$Reader")
  | 9 => (.object "DrumWorld$Tape")
  | 10 => (.array (.object "DrumWorld$Text"))
  | 11 => .int
  | 12 => .int
  | 13 => (.array .int)
  | 14 => (.object "DrumWorld$Placing")
  | 15 => (.array .int)
  | 16 => (.array .int)
  | 17 => .int
  | 18 => (.object "DrumWorld$Image")
  | _ => (.array (.object "DrumWorld$Sheet"))
def am_F1 : u_T := fun k => match k with
  | 0 => ("DrumWorld$Ball", "thick", "[I", true)
  | 1 => ("DrumWorld$Ball", "slow", "[[I", true)
  | _ => ("DrumWorld$Ball", "shells", "I", false)
def am_t1 : Nat → FieldType := fun k => match k with
  | 0 => (.array .int)
  | 1 => (.array (.array .int))
  | _ => .int
def am_F2 : u_T := fun k => match k with
  | 0 => ("DrumWorld$Reader", "tape", "LDrumWorld$Tape;", true)
  | 1 => ("DrumWorld$Reader", "at", "I", false)
  | 2 => ("DrumWorld$Reader", "code", "[I", true)
  | _ => ("DrumWorld$Reader", "codeSize", "I", false)
def am_t2 : Nat → FieldType := fun k => match k with
  | 0 => (.object "DrumWorld$Tape")
  | 1 => .int
  | 2 => (.array .int)
  | _ => .int
def am_F3 : u_T := fun k => match k with
  | 0 => ("DrumWorld$Tape", "bytes", "[I", true)
  | 1 => ("DrumWorld$Tape", "size", "I", false)
  | 2 => ("DrumWorld$Tape", "tokens", "[I", true)
  | 3 => ("DrumWorld$Tape", "starts", "[I", true)
  | _ => ("DrumWorld$Tape", "values", "[I", true)
def am_t3 : Nat → FieldType := fun k => match k with
  | 0 => (.array .int)
  | 1 => .int
  | 2 => (.array .int)
  | 3 => (.array .int)
  | _ => (.array .int)
def am_F4 : u_T := fun k => match k with
  | 0 => ("DrumWorld$Placing", "kinds", "[I", true)
  | 1 => ("DrumWorld$Placing", "places", "[I", true)
  | 2 => ("DrumWorld$Placing", "times", "[I", true)
  | 3 => ("DrumWorld$Placing", "size", "I", false)
  | 4 => ("DrumWorld$Placing", "order", "[I", true)
  | 5 => ("DrumWorld$Placing", "hours", "[I", true)
  | 6 => ("DrumWorld$Placing", "isAsked", "[Z", true)
  | 7 => ("DrumWorld$Placing", "dues", "[[I", true)
  | 8 => ("DrumWorld$Placing", "isFound", "Z", false)
  | 9 => ("DrumWorld$Placing", "bestPlace", "I", false)
  | 10 => ("DrumWorld$Placing", "bestDepth", "I", false)
  | 11 => ("DrumWorld$Placing", "bestHour", "I", false)
  | _ => ("DrumWorld$Placing", "bestOff", "J", false)
def am_t4 : Nat → FieldType := fun k => match k with
  | 0 => (.array .int)
  | 1 => (.array .int)
  | 2 => (.array .int)
  | 3 => .int
  | 4 => (.array .int)
  | 5 => (.array .int)
  | 6 => (.array .boolean)
  | 7 => (.array (.array .int))
  | 8 => .boolean
  | 9 => .int
  | 10 => .int
  | 11 => .int
  | _ => .long
def am_F5 : u_T := fun k => match k with
  | 0 => ("DrumWorld$Image", "isThere", "Z", false)
  | 1 => ("DrumWorld$Image", "shells", "I", false)
  | 2 => ("DrumWorld$Image", "drums", "I", false)
  | 3 => ("DrumWorld$Image", "shakes", "I", false)
  | 4 => ("DrumWorld$Image", "cards", "I", false)
  | 5 => ("DrumWorld$Image", "slow", "[[I", true)
  | 6 => ("DrumWorld$Image", "drifts", "[I", true)
  | 7 => ("DrumWorld$Image", "places", "[I", true)
  | 8 => ("DrumWorld$Image", "depths", "[I", true)
  | 9 => ("DrumWorld$Image", "hours", "[I", true)
  | _ => ("DrumWorld$Image", "isWrong", "[Z", true)
def am_t5 : Nat → FieldType := fun k => match k with
  | 0 => .boolean
  | 1 => .int
  | 2 => .int
  | 3 => .int
  | 4 => .int
  | 5 => (.array (.array .int))
  | 6 => (.array .int)
  | 7 => (.array .int)
  | 8 => (.array .int)
  | 9 => (.array .int)
  | _ => (.array .boolean)
def am_F6 : u_T := fun k => match k with
  | 0 => ("DrumWorld$Sheet", "numbers", "[I", true)
  | 1 => ("DrumWorld$Sheet", "sort", "I", false)
  | _ => ("DrumWorld$Sheet", "size", "I", false)
def am_t6 : Nat → FieldType := fun k => match k with
  | 0 => (.array .int)
  | 1 => .int
  | _ => .int
def am_F7 : u_T := fun k => match k with
  | 0 => ("DrumWorld$Text", "code", "[I", true)
  | 1 => ("DrumWorld$Text", "stack", "[I", true)
  | 2 => ("DrumWorld$Text", "takeSize", "I", true)
  | _ => ("DrumWorld$Text", "top", "I", false)
def am_t7 : Nat → FieldType := fun k => match k with
  | 0 => (.array .int)
  | 1 => (.array .int)
  | 2 => .int
  | _ => .int
def am_F8 : u_T := fun k => match k with
  | 0 => ("DrumWorld$Drum", "number", "I", true)
  | 1 => ("DrumWorld$Drum", "place", "I", true)
  | 2 => ("DrumWorld$Drum", "noise", "I", true)
  | _ => ("DrumWorld$Drum", "drift", "I", false)
def am_t8 : Nat → FieldType := fun k => match k with
  | 0 => .int
  | 1 => .int
  | 2 => .int
  | _ => .int
def am_F9 : u_T := fun k => match k with
  | 0 => ("DrumWorld$Shake", "number", "I", true)
  | 1 => ("DrumWorld$Shake", "place", "I", false)
  | 2 => ("DrumWorld$Shake", "depth", "I", false)
  | _ => ("DrumWorld$Shake", "hour", "I", false)
def am_t9 : Nat → FieldType := fun k => match k with
  | 0 => .int
  | 1 => .int
  | 2 => .int
  | _ => .int
def am_F10 : u_T := fun k => match k with
  | 0 => ("DrumWorld$Card", "kind", "I", true)
  | 1 => ("DrumWorld$Card", "toldTime", "I", true)
  | 2 => ("DrumWorld$Card", "toldDay", "I", true)
  | 3 => ("DrumWorld$Card", "drum", "LDrumWorld$Drum;", true)
  | 4 => ("DrumWorld$Card", "shake", "LDrumWorld$Shake;", true)
  | 5 => ("DrumWorld$Card", "isMended", "Z", false)
  | 6 => ("DrumWorld$Card", "isWrong", "Z", false)
  | 7 => ("DrumWorld$Card", "mendedTime", "I", false)
  | _ => ("DrumWorld$Card", "mendedDay", "I", false)
def am_t10 : Nat → FieldType := fun k => match k with
  | 0 => .int
  | 1 => .int
  | 2 => .int
  | 3 => (.object "DrumWorld$Drum")
  | 4 => (.object "DrumWorld$Shake")
  | 5 => .boolean
  | 6 => .boolean
  | 7 => .int
  | _ => .int
def am_F11 : u_T := fun k => match k with
  | 0 => ("DrumWorldModel", "day", "I", false)
  | 1 => ("DrumWorldModel", "shells", "I", false)
  | 2 => ("DrumWorldModel", "thick", "[I", true)
  | 3 => ("DrumWorldModel", "slow", "[I", true)
  | 4 => ("DrumWorldModel", "drums", "I", false)
  | 5 => ("DrumWorldModel", "drumAt", "[I", true)
  | 6 => ("DrumWorldModel", "drift", "[I", true)
  | 7 => ("DrumWorldModel", "noise", "[I", true)
  | 8 => ("DrumWorldModel", "shakes", "I", false)
  | 9 => ("DrumWorldModel", "shakeAt", "[I", true)
  | 10 => ("DrumWorldModel", "shakeDeep", "[I", true)
  | 11 => ("DrumWorldModel", "shakeHour", "[I", true)
  | 12 => ("DrumWorldModel", "cards", "I", false)
  | 13 => ("DrumWorldModel", "cardKind", "[I", true)
  | 14 => ("DrumWorldModel", "cardDrum", "[I", true)
  | 15 => ("DrumWorldModel", "cardShake", "[I", true)
  | 16 => ("DrumWorldModel", "cardTime", "[I", true)
  | 17 => ("DrumWorldModel", "cardDay", "[I", true)
  | 18 => ("DrumWorldModel", "cardAnew", "[I", true)
  | 19 => ("DrumWorldModel", "mendDay", "[I", true)
  | 20 => ("DrumWorldModel", "isWrong", "[Z", true)
  | 21 => ("DrumWorldModel", "tape", "[I", true)
  | 22 => ("DrumWorldModel", "taped", "I", false)
  | 23 => ("DrumWorldModel", "codes", "[I", true)
  | 24 => ("DrumWorldModel", "starts", "[I", true)
  | 25 => ("DrumWorldModel", "texts", "I", false)
  | 26 => ("DrumWorldModel", "rule", "I", false)
  | 27 => ("DrumWorldModel", "refitShell", "I", false)
  | 28 => ("DrumWorldModel", "refitSort", "I", false)
  | 29 => ("DrumWorldModel", "refitSlow", "I", false)
  | 30 => ("DrumWorldModel", "watchSet", "I", false)
  | 31 => ("DrumWorldModel", "hasImage", "Z", false)
  | 32 => ("DrumWorldModel", "imageShells", "I", false)
  | 33 => ("DrumWorldModel", "imageDrums", "I", false)
  | 34 => ("DrumWorldModel", "imageShakes", "I", false)
  | 35 => ("DrumWorldModel", "imageCards", "I", false)
  | 36 => ("DrumWorldModel", "imageSlow", "[I", true)
  | 37 => ("DrumWorldModel", "imageDrift", "[I", true)
  | 38 => ("DrumWorldModel", "imageAt", "[I", true)
  | 39 => ("DrumWorldModel", "imageDeep", "[I", true)
  | 40 => ("DrumWorldModel", "imageHour", "[I", true)
  | 41 => ("DrumWorldModel", "imageWrong", "[Z", true)
  | 42 => ("DrumWorldModel", "sheetSort", "[I", true)
  | 43 => ("DrumWorldModel", "sheetSize", "[I", true)
  | 44 => ("DrumWorldModel", "cells", "[I", true)
  | 45 => ("DrumWorldModel", "at", "I", false)
  | 46 => ("DrumWorldModel", "begun", "I", false)
  | 47 => ("DrumWorldModel", "token", "I", false)
  | 48 => ("DrumWorldModel", "value", "I", false)
  | 49 => ("DrumWorldModel", "words", "[J", true)
  | 50 => ("DrumWorldModel", "held", "[I", true)
  | 51 => ("DrumWorldModel", "heldMany", "I", false)
  | 52 => ("DrumWorldModel", "opens", "I", false)
  | 53 => ("DrumWorldModel", "out", "I", false)
  | 54 => ("DrumWorldModel", "stack", "[I", true)
  | 55 => ("DrumWorldModel", "hours", "[I", true)
  | 56 => ("DrumWorldModel", "heard", "I", false)
  | 57 => ("DrumWorldModel", "placedAt", "I", false)
  | 58 => ("DrumWorldModel", "placedDeep", "I", false)
  | 59 => ("DrumWorldModel", "placedHour", "I", false)
  | _ => ("DrumWorldModel", "placedOff", "I", false)
def am_t11 : Nat → FieldType := fun k => match k with
  | 0 => .int
  | 1 => .int
  | 2 => (.array .int)
  | 3 => (.array .int)
  | 4 => .int
  | 5 => (.array .int)
  | 6 => (.array .int)
  | 7 => (.array .int)
  | 8 => .int
  | 9 => (.array .int)
  | 10 => (.array .int)
  | 11 => (.array .int)
  | 12 => .int
  | 13 => (.array .int)
  | 14 => (.array .int)
  | 15 => (.array .int)
  | 16 => (.array .int)
  | 17 => (.array .int)
  | 18 => (.array .int)
  | 19 => (.array .int)
  | 20 => (.array .boolean)
  | 21 => (.array .int)
  | 22 => .int
  | 23 => (.array .int)
  | 24 => (.array .int)
  | 25 => .int
  | 26 => .int
  | 27 => .int
  | 28 => .int
  | 29 => .int
  | 30 => .int
  | 31 => .boolean
  | 32 => .int
  | 33 => .int
  | 34 => .int
  | 35 => .int
  | 36 => (.array .int)
  | 37 => (.array .int)
  | 38 => (.array .int)
  | 39 => (.array .int)
  | 40 => (.array .int)
  | 41 => (.array .boolean)
  | 42 => (.array .int)
  | 43 => (.array .int)
  | 44 => (.array .int)
  | 45 => .int
  | 46 => .int
  | 47 => .int
  | 48 => .int
  | 49 => (.array .long)
  | 50 => (.array .int)
  | 51 => .int
  | 52 => .int
  | 53 => .int
  | 54 => (.array .int)
  | 55 => (.array .int)
  | 56 => .int
  | 57 => .int
  | 58 => .int
  | 59 => .int
  | _ => .int
def am_cl : List vw_C := [("DrumWorld", am_F0, 20), ("DrumWorld$Ball", am_F1, 3), ("DrumWorld$Reader", am_F2, 4), ("DrumWorld$Tape", am_F3, 5), ("DrumWorld$Placing", am_F4, 13), ("DrumWorld$Image", am_F5, 11), ("DrumWorld$Sheet", am_F6, 3), ("DrumWorld$Text", am_F7, 4), ("DrumWorld$Drum", am_F8, 4), ("DrumWorld$Shake", am_F9, 4), ("DrumWorld$Card", am_F10, 9), ("DrumWorldModel", am_F11, 61)]
/-- how a field is kept: 0 an int, 3 a boolean, 1 a long, 2 a reference -/
def am_ftl : List (List Nat) := [[2, 2, 2, 2, 0, 0, 0, 0, 2, 2, 2, 0, 0, 2, 2, 2, 2, 0, 2, 2], [2, 2, 0], [2, 0, 2, 0], [2, 0, 2, 2, 2], [2, 2, 2, 0, 2, 2, 2, 2, 3, 0, 0, 0, 1], [3, 0, 0, 0, 0, 2, 2, 2, 2, 2, 2], [2, 0, 0], [2, 2, 0, 0], [0, 0, 0, 0], [0, 0, 0, 0], [0, 0, 0, 2, 2, 3, 3, 0, 0], [0, 0, 2, 2, 0, 2, 2, 2, 0, 2, 2, 2, 0, 2, 2, 2, 2, 2, 2, 2, 2, 2, 0, 2, 2, 0, 0, 0, 0, 0, 0, 3, 0, 0, 0, 0, 2, 2, 2, 2, 2, 2, 2, 2, 2, 0, 0, 0, 0, 2, 2, 0, 0, 0, 2, 2, 0, 0, 0, 0, 0]]
def am_ft (ci k : Nat) : Nat := (am_ftl.getD ci []).getD k 9
def am_tyl : List (Nat → FieldType) := [am_t0, am_t1, am_t2, am_t3, am_t4, am_t5, am_t6, am_t7, am_t8, am_t9, am_t10, am_t11]
def am_ty (ci : Nat) : Nat → FieldType := am_tyl.getD ci (fun _ => .int)
theorem am_n0 : ∀ a, a < 20 → ∀ b, b < 20 → a ≠ b → (am_F0 a).2.1 ≠ (am_F0 b).2.1 := by decide +kernel
theorem am_p0 : ∀ k, k < 20 → parseFieldDescriptor (am_F0 k).2.2.1 = some (am_t0 k) := by decide +kernel
theorem am_q0 : ∀ k, k < 20 → ∃ q : Nat, tables_1[q]? = some (u_lay "DrumWorld" am_F0 k) := by
  intro k hk
  match k, hk with
  | 0, _ => exact ⟨481, by decide +kernel⟩
  | 1, _ => exact ⟨483, by decide +kernel⟩
  | 2, _ => exact ⟨485, by decide +kernel⟩
  | 3, _ => exact ⟨487, by decide +kernel⟩
  | 4, _ => exact ⟨489, by decide +kernel⟩
  | 5, _ => exact ⟨491, by decide +kernel⟩
  | 6, _ => exact ⟨493, by decide +kernel⟩
  | 7, _ => exact ⟨495, by decide +kernel⟩
  | 8, _ => exact ⟨497, by decide +kernel⟩
  | 9, _ => exact ⟨499, by decide +kernel⟩
  | 10, _ => exact ⟨501, by decide +kernel⟩
  | 11, _ => exact ⟨503, by decide +kernel⟩
  | 12, _ => exact ⟨505, by decide +kernel⟩
  | 13, _ => exact ⟨507, by decide +kernel⟩
  | 14, _ => exact ⟨509, by decide +kernel⟩
  | 15, _ => exact ⟨511, by decide +kernel⟩
  | 16, _ => exact ⟨513, by decide +kernel⟩
  | 17, _ => exact ⟨515, by decide +kernel⟩
  | 18, _ => exact ⟨517, by decide +kernel⟩
  | 19, _ => exact ⟨519, by decide +kernel⟩
  | k + 20, hk => omega
theorem am_i0 : ∀ w ∈ u_ws "DrumWorld" am_F0 20, w ∈ am_T := by
  intro w hw
  obtain ⟨k, hk, rfl⟩ := List.mem_map.mp hw
  obtain ⟨q, hq⟩ := am_q0 k (List.mem_range.mp hk)
  exact am_in hq (by unfold u_lay; split <;> rfl)
theorem am_n1 : ∀ a, a < 3 → ∀ b, b < 3 → a ≠ b → (am_F1 a).2.1 ≠ (am_F1 b).2.1 := by decide +kernel
theorem am_p1 : ∀ k, k < 3 → parseFieldDescriptor (am_F1 k).2.2.1 = some (am_t1 k) := by decide +kernel
theorem am_q1 : ∀ k, k < 3 → ∃ q : Nat, tables_1[q]? = some (u_lay "DrumWorld$Ball" am_F1 k) := by
  intro k hk
  match k, hk with
  | 0, _ => exact ⟨45, by decide +kernel⟩
  | 1, _ => exact ⟨47, by decide +kernel⟩
  | 2, _ => exact ⟨49, by decide +kernel⟩
  | k + 3, hk => omega
theorem am_i1 : ∀ w ∈ u_ws "DrumWorld$Ball" am_F1 3, w ∈ am_T := by
  intro w hw
  obtain ⟨k, hk, rfl⟩ := List.mem_map.mp hw
  obtain ⟨q, hq⟩ := am_q1 k (List.mem_range.mp hk)
  exact am_in hq (by unfold u_lay; split <;> rfl)
theorem am_n2 : ∀ a, a < 4 → ∀ b, b < 4 → a ≠ b → (am_F2 a).2.1 ≠ (am_F2 b).2.1 := by decide +kernel
theorem am_p2 : ∀ k, k < 4 → parseFieldDescriptor (am_F2 k).2.2.1 = some (am_t2 k) := by decide +kernel
theorem am_q2 : ∀ k, k < 4 → ∃ q : Nat, tables_1[q]? = some (u_lay "DrumWorld$Reader" am_F2 k) := by
  intro k hk
  match k, hk with
  | 0, _ => exact ⟨96, by decide +kernel⟩
  | 1, _ => exact ⟨98, by decide +kernel⟩
  | 2, _ => exact ⟨100, by decide +kernel⟩
  | 3, _ => exact ⟨102, by decide +kernel⟩
  | k + 4, hk => omega
theorem am_i2 : ∀ w ∈ u_ws "DrumWorld$Reader" am_F2 4, w ∈ am_T := by
  intro w hw
  obtain ⟨k, hk, rfl⟩ := List.mem_map.mp hw
  obtain ⟨q, hq⟩ := am_q2 k (List.mem_range.mp hk)
  exact am_in hq (by unfold u_lay; split <;> rfl)
theorem am_n3 : ∀ a, a < 5 → ∀ b, b < 5 → a ≠ b → (am_F3 a).2.1 ≠ (am_F3 b).2.1 := by decide +kernel
theorem am_p3 : ∀ k, k < 5 → parseFieldDescriptor (am_F3 k).2.2.1 = some (am_t3 k) := by decide +kernel
theorem am_q3 : ∀ k, k < 5 → ∃ q : Nat, tables_1[q]? = some (u_lay "DrumWorld$Tape" am_F3 k) := by
  intro k hk
  match k, hk with
  | 0, _ => exact ⟨80, by decide +kernel⟩
  | 1, _ => exact ⟨82, by decide +kernel⟩
  | 2, _ => exact ⟨84, by decide +kernel⟩
  | 3, _ => exact ⟨86, by decide +kernel⟩
  | 4, _ => exact ⟨88, by decide +kernel⟩
  | k + 5, hk => omega
theorem am_i3 : ∀ w ∈ u_ws "DrumWorld$Tape" am_F3 5, w ∈ am_T := by
  intro w hw
  obtain ⟨k, hk, rfl⟩ := List.mem_map.mp hw
  obtain ⟨q, hq⟩ := am_q3 k (List.mem_range.mp hk)
  exact am_in hq (by unfold u_lay; split <;> rfl)
theorem am_n4 : ∀ a, a < 13 → ∀ b, b < 13 → a ≠ b → (am_F4 a).2.1 ≠ (am_F4 b).2.1 := by decide +kernel
theorem am_p4 : ∀ k, k < 13 → parseFieldDescriptor (am_F4 k).2.2.1 = some (am_t4 k) := by decide +kernel
theorem am_q4 : ∀ k, k < 13 → ∃ q : Nat, tables_1[q]? = some (u_lay "DrumWorld$Placing" am_F4 k) := by
  intro k hk
  match k, hk with
  | 0, _ => exact ⟨132, by decide +kernel⟩
  | 1, _ => exact ⟨134, by decide +kernel⟩
  | 2, _ => exact ⟨136, by decide +kernel⟩
  | 3, _ => exact ⟨138, by decide +kernel⟩
  | 4, _ => exact ⟨140, by decide +kernel⟩
  | 5, _ => exact ⟨142, by decide +kernel⟩
  | 6, _ => exact ⟨144, by decide +kernel⟩
  | 7, _ => exact ⟨146, by decide +kernel⟩
  | 8, _ => exact ⟨148, by decide +kernel⟩
  | 9, _ => exact ⟨150, by decide +kernel⟩
  | 10, _ => exact ⟨152, by decide +kernel⟩
  | 11, _ => exact ⟨154, by decide +kernel⟩
  | 12, _ => exact ⟨156, by decide +kernel⟩
  | k + 13, hk => omega
theorem am_i4 : ∀ w ∈ u_ws "DrumWorld$Placing" am_F4 13, w ∈ am_T := by
  intro w hw
  obtain ⟨k, hk, rfl⟩ := List.mem_map.mp hw
  obtain ⟨q, hq⟩ := am_q4 k (List.mem_range.mp hk)
  exact am_in hq (by unfold u_lay; split <;> rfl)
theorem am_n5 : ∀ a, a < 11 → ∀ b, b < 11 → a ≠ b → (am_F5 a).2.1 ≠ (am_F5 b).2.1 := by decide +kernel
theorem am_p5 : ∀ k, k < 11 → parseFieldDescriptor (am_F5 k).2.2.1 = some (am_t5 k) := by decide +kernel
theorem am_q5 : ∀ k, k < 11 → ∃ q : Nat, tables_1[q]? = some (u_lay "DrumWorld$Image" am_F5 k) := by
  intro k hk
  match k, hk with
  | 0, _ => exact ⟨182, by decide +kernel⟩
  | 1, _ => exact ⟨184, by decide +kernel⟩
  | 2, _ => exact ⟨186, by decide +kernel⟩
  | 3, _ => exact ⟨188, by decide +kernel⟩
  | 4, _ => exact ⟨190, by decide +kernel⟩
  | 5, _ => exact ⟨192, by decide +kernel⟩
  | 6, _ => exact ⟨194, by decide +kernel⟩
  | 7, _ => exact ⟨196, by decide +kernel⟩
  | 8, _ => exact ⟨198, by decide +kernel⟩
  | 9, _ => exact ⟨200, by decide +kernel⟩
  | 10, _ => exact ⟨202, by decide +kernel⟩
  | k + 11, hk => omega
theorem am_i5 : ∀ w ∈ u_ws "DrumWorld$Image" am_F5 11, w ∈ am_T := by
  intro w hw
  obtain ⟨k, hk, rfl⟩ := List.mem_map.mp hw
  obtain ⟨q, hq⟩ := am_q5 k (List.mem_range.mp hk)
  exact am_in hq (by unfold u_lay; split <;> rfl)
theorem am_n6 : ∀ a, a < 3 → ∀ b, b < 3 → a ≠ b → (am_F6 a).2.1 ≠ (am_F6 b).2.1 := by decide +kernel
theorem am_p6 : ∀ k, k < 3 → parseFieldDescriptor (am_F6 k).2.2.1 = some (am_t6 k) := by decide +kernel
theorem am_q6 : ∀ k, k < 3 → ∃ q : Nat, tables_1[q]? = some (u_lay "DrumWorld$Sheet" am_F6 k) := by
  intro k hk
  match k, hk with
  | 0, _ => exact ⟨218, by decide +kernel⟩
  | 1, _ => exact ⟨220, by decide +kernel⟩
  | 2, _ => exact ⟨222, by decide +kernel⟩
  | k + 3, hk => omega
theorem am_i6 : ∀ w ∈ u_ws "DrumWorld$Sheet" am_F6 3, w ∈ am_T := by
  intro w hw
  obtain ⟨k, hk, rfl⟩ := List.mem_map.mp hw
  obtain ⟨q, hq⟩ := am_q6 k (List.mem_range.mp hk)
  exact am_in hq (by unfold u_lay; split <;> rfl)
theorem am_n7 : ∀ a, a < 4 → ∀ b, b < 4 → a ≠ b → (am_F7 a).2.1 ≠ (am_F7 b).2.1 := by decide +kernel
theorem am_p7 : ∀ k, k < 4 → parseFieldDescriptor (am_F7 k).2.2.1 = some (am_t7 k) := by decide +kernel
theorem am_q7 : ∀ k, k < 4 → ∃ q : Nat, tables_1[q]? = some (u_lay "DrumWorld$Text" am_F7 k) := by
  intro k hk
  match k, hk with
  | 0, _ => exact ⟨447, by decide +kernel⟩
  | 1, _ => exact ⟨449, by decide +kernel⟩
  | 2, _ => exact ⟨451, by decide +kernel⟩
  | 3, _ => exact ⟨453, by decide +kernel⟩
  | k + 4, hk => omega
theorem am_i7 : ∀ w ∈ u_ws "DrumWorld$Text" am_F7 4, w ∈ am_T := by
  intro w hw
  obtain ⟨k, hk, rfl⟩ := List.mem_map.mp hw
  obtain ⟨q, hq⟩ := am_q7 k (List.mem_range.mp hk)
  exact am_in hq (by unfold u_lay; split <;> rfl)
theorem am_n8 : ∀ a, a < 4 → ∀ b, b < 4 → a ≠ b → (am_F8 a).2.1 ≠ (am_F8 b).2.1 := by decide +kernel
theorem am_p8 : ∀ k, k < 4 → parseFieldDescriptor (am_F8 k).2.2.1 = some (am_t8 k) := by decide +kernel
theorem am_q8 : ∀ k, k < 4 → ∃ q : Nat, tables_1[q]? = some (u_lay "DrumWorld$Drum" am_F8 k) := by
  intro k hk
  match k, hk with
  | 0, _ => exact ⟨634, by decide +kernel⟩
  | 1, _ => exact ⟨636, by decide +kernel⟩
  | 2, _ => exact ⟨638, by decide +kernel⟩
  | 3, _ => exact ⟨640, by decide +kernel⟩
  | k + 4, hk => omega
theorem am_i8 : ∀ w ∈ u_ws "DrumWorld$Drum" am_F8 4, w ∈ am_T := by
  intro w hw
  obtain ⟨k, hk, rfl⟩ := List.mem_map.mp hw
  obtain ⟨q, hq⟩ := am_q8 k (List.mem_range.mp hk)
  exact am_in hq (by unfold u_lay; split <;> rfl)
theorem am_n9 : ∀ a, a < 4 → ∀ b, b < 4 → a ≠ b → (am_F9 a).2.1 ≠ (am_F9 b).2.1 := by decide +kernel
theorem am_p9 : ∀ k, k < 4 → parseFieldDescriptor (am_F9 k).2.2.1 = some (am_t9 k) := by decide +kernel
theorem am_q9 : ∀ k, k < 4 → ∃ q : Nat, tables_1[q]? = some (u_lay "DrumWorld$Shake" am_F9 k) := by
  intro k hk
  match k, hk with
  | 0, _ => exact ⟨677, by decide +kernel⟩
  | 1, _ => exact ⟨679, by decide +kernel⟩
  | 2, _ => exact ⟨681, by decide +kernel⟩
  | 3, _ => exact ⟨683, by decide +kernel⟩
  | k + 4, hk => omega
theorem am_i9 : ∀ w ∈ u_ws "DrumWorld$Shake" am_F9 4, w ∈ am_T := by
  intro w hw
  obtain ⟨k, hk, rfl⟩ := List.mem_map.mp hw
  obtain ⟨q, hq⟩ := am_q9 k (List.mem_range.mp hk)
  exact am_in hq (by unfold u_lay; split <;> rfl)
theorem am_n10 : ∀ a, a < 9 → ∀ b, b < 9 → a ≠ b → (am_F10 a).2.1 ≠ (am_F10 b).2.1 := by decide +kernel
theorem am_p10 : ∀ k, k < 9 → parseFieldDescriptor (am_F10 k).2.2.1 = some (am_t10 k) := by decide +kernel
theorem am_q10 : ∀ k, k < 9 → ∃ q : Nat, tables_1[q]? = some (u_lay "DrumWorld$Card" am_F10 k) := by
  intro k hk
  match k, hk with
  | 0, _ => exact ⟨721, by decide +kernel⟩
  | 1, _ => exact ⟨723, by decide +kernel⟩
  | 2, _ => exact ⟨725, by decide +kernel⟩
  | 3, _ => exact ⟨727, by decide +kernel⟩
  | 4, _ => exact ⟨729, by decide +kernel⟩
  | 5, _ => exact ⟨731, by decide +kernel⟩
  | 6, _ => exact ⟨733, by decide +kernel⟩
  | 7, _ => exact ⟨735, by decide +kernel⟩
  | 8, _ => exact ⟨737, by decide +kernel⟩
  | k + 9, hk => omega
theorem am_i10 : ∀ w ∈ u_ws "DrumWorld$Card" am_F10 9, w ∈ am_T := by
  intro w hw
  obtain ⟨k, hk, rfl⟩ := List.mem_map.mp hw
  obtain ⟨q, hq⟩ := am_q10 k (List.mem_range.mp hk)
  exact am_in hq (by unfold u_lay; split <;> rfl)
theorem am_n11 : ∀ a, a < 61 → ∀ b, b < 61 → a ≠ b → (am_F11 a).2.1 ≠ (am_F11 b).2.1 := by decide +kernel
theorem am_p11 : ∀ k, k < 61 → parseFieldDescriptor (am_F11 k).2.2.1 = some (am_t11 k) := by decide +kernel
theorem am_q11 : ∀ k, k < 61 → ∃ q : Nat, tables_1[q]? = some (u_lay "DrumWorldModel" am_F11 k) := by
  intro k hk
  match k, hk with
  | 0, _ => exact ⟨1150, by decide +kernel⟩
  | 1, _ => exact ⟨1152, by decide +kernel⟩
  | 2, _ => exact ⟨1154, by decide +kernel⟩
  | 3, _ => exact ⟨1156, by decide +kernel⟩
  | 4, _ => exact ⟨1158, by decide +kernel⟩
  | 5, _ => exact ⟨1160, by decide +kernel⟩
  | 6, _ => exact ⟨1162, by decide +kernel⟩
  | 7, _ => exact ⟨1164, by decide +kernel⟩
  | 8, _ => exact ⟨1166, by decide +kernel⟩
  | 9, _ => exact ⟨1168, by decide +kernel⟩
  | 10, _ => exact ⟨1170, by decide +kernel⟩
  | 11, _ => exact ⟨1172, by decide +kernel⟩
  | 12, _ => exact ⟨1174, by decide +kernel⟩
  | 13, _ => exact ⟨1176, by decide +kernel⟩
  | 14, _ => exact ⟨1178, by decide +kernel⟩
  | 15, _ => exact ⟨1180, by decide +kernel⟩
  | 16, _ => exact ⟨1182, by decide +kernel⟩
  | 17, _ => exact ⟨1184, by decide +kernel⟩
  | 18, _ => exact ⟨1186, by decide +kernel⟩
  | 19, _ => exact ⟨1188, by decide +kernel⟩
  | 20, _ => exact ⟨1190, by decide +kernel⟩
  | 21, _ => exact ⟨1192, by decide +kernel⟩
  | 22, _ => exact ⟨1194, by decide +kernel⟩
  | 23, _ => exact ⟨1196, by decide +kernel⟩
  | 24, _ => exact ⟨1198, by decide +kernel⟩
  | 25, _ => exact ⟨1200, by decide +kernel⟩
  | 26, _ => exact ⟨1202, by decide +kernel⟩
  | 27, _ => exact ⟨1204, by decide +kernel⟩
  | 28, _ => exact ⟨1206, by decide +kernel⟩
  | 29, _ => exact ⟨1208, by decide +kernel⟩
  | 30, _ => exact ⟨1210, by decide +kernel⟩
  | 31, _ => exact ⟨1212, by decide +kernel⟩
  | 32, _ => exact ⟨1214, by decide +kernel⟩
  | 33, _ => exact ⟨1216, by decide +kernel⟩
  | 34, _ => exact ⟨1218, by decide +kernel⟩
  | 35, _ => exact ⟨1220, by decide +kernel⟩
  | 36, _ => exact ⟨1222, by decide +kernel⟩
  | 37, _ => exact ⟨1224, by decide +kernel⟩
  | 38, _ => exact ⟨1226, by decide +kernel⟩
  | 39, _ => exact ⟨1228, by decide +kernel⟩
  | 40, _ => exact ⟨1230, by decide +kernel⟩
  | 41, _ => exact ⟨1232, by decide +kernel⟩
  | 42, _ => exact ⟨1234, by decide +kernel⟩
  | 43, _ => exact ⟨1236, by decide +kernel⟩
  | 44, _ => exact ⟨1238, by decide +kernel⟩
  | 45, _ => exact ⟨1240, by decide +kernel⟩
  | 46, _ => exact ⟨1242, by decide +kernel⟩
  | 47, _ => exact ⟨1244, by decide +kernel⟩
  | 48, _ => exact ⟨1246, by decide +kernel⟩
  | 49, _ => exact ⟨1248, by decide +kernel⟩
  | 50, _ => exact ⟨1250, by decide +kernel⟩
  | 51, _ => exact ⟨1252, by decide +kernel⟩
  | 52, _ => exact ⟨1254, by decide +kernel⟩
  | 53, _ => exact ⟨1256, by decide +kernel⟩
  | 54, _ => exact ⟨1258, by decide +kernel⟩
  | 55, _ => exact ⟨1260, by decide +kernel⟩
  | 56, _ => exact ⟨1262, by decide +kernel⟩
  | 57, _ => exact ⟨1264, by decide +kernel⟩
  | 58, _ => exact ⟨1266, by decide +kernel⟩
  | 59, _ => exact ⟨1268, by decide +kernel⟩
  | 60, _ => exact ⟨1270, by decide +kernel⟩
  | k + 61, hk => omega
theorem am_i11 : ∀ w ∈ u_ws "DrumWorldModel" am_F11 61, w ∈ am_T := by
  intro w hw
  obtain ⟨k, hk, rfl⟩ := List.mem_map.mp hw
  obtain ⟨q, hq⟩ := am_q11 k (List.mem_range.mp hk)
  exact am_in hq (by unfold u_lay; split <;> rfl)
/-- the string literals, by their numbers: their lengths, their bytes -/
def am_sl : List Nat := [59, 4, 4, 2, 3, 3, 4, 3, 4, 5, 5, 5, 0, 8]
def am_sb : List (List Int32) := [[116, 97, 107, 101, 32, 108, 97, 116, 101, 32, 60, 32, 53, 48, 32, 97, 110, 100, 32, 110, 111, 105, 115, 101, 32, 60, 32, 52, 32, 59, 32, 99, 97, 108, 108, 32, 102, 97, 114, 32, 60, 32, 49, 48, 48, 32, 111, 114, 32, 52, 32, 61, 32, 107, 105, 110, 100, 32, 59], [116, 97, 107, 101], [99, 97, 108, 108], [111, 114], [97, 110, 100], [110, 111, 116], [108, 97, 116, 101], [102, 97, 114], [107, 105, 110, 100], [110, 111, 105, 115, 101], [100, 114, 105, 102, 116], [100, 101, 112, 116, 104], [], [40, 41, 59, 43, 45, 42, 60, 61]]
