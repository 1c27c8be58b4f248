def tn_T0 : u_T := fun k => match k with
  | 0 => ("ThunderOwned$House", "kind", "I", false)
  | 1 => ("ThunderOwned$House", "wrong", "I", false)
  | 2 => ("ThunderOwned$House", "sleepLeft", "I", false)
  | 3 => ("ThunderOwned$House", "hats", "I", false)
  | _ => ("ThunderOwned$House", "owned", "Z", false)
def tn_ty0 : Nat → FieldType := fun k => match k with
  | 0 => .int
  | 1 => .int
  | 2 => .int
  | 3 => .int
  | _ => .boolean
theorem tn_nm0 : ∀ a, a < 5 → ∀ b, b < 5 → a ≠ b → (tn_T0 a).2.1 ≠ (tn_T0 b).2.1 := by decide +kernel
theorem tn_tk0 : ∀ k, k < 5 → parseFieldDescriptor (tn_T0 k).2.2.1 = some (tn_ty0 k) := by decide +kernel
def tn_T1 : u_T := fun k => match k with
  | 0 => ("ThunderOwned$Parish", "houses", "[LThunderOwned$House;", true)
  | 1 => ("ThunderOwned$Parish", "stones", "[LThunderOwned$Stone;", true)
  | 2 => ("ThunderOwned$Parish", "houseCount", "I", false)
  | 3 => ("ThunderOwned$Parish", "stoneCount", "I", false)
  | 4 => ("ThunderOwned$Parish", "step", "I", false)
  | _ => ("ThunderOwned$Parish", "hangs", "I", false)
def tn_ty1 : Nat → FieldType := fun k => match k with
  | 0 => .array (.object "ThunderOwned$House")
  | 1 => .array (.object "ThunderOwned$Stone")
  | 2 => .int
  | 3 => .int
  | 4 => .int
  | _ => .int
theorem tn_nm1 : ∀ a, a < 6 → ∀ b, b < 6 → a ≠ b → (tn_T1 a).2.1 ≠ (tn_T1 b).2.1 := by decide +kernel
theorem tn_tk1 : ∀ k, k < 6 → parseFieldDescriptor (tn_T1 k).2.2.1 = some (tn_ty1 k) := by decide +kernel
def tn_T2 : u_T := fun k => match k with
  | 0 => ("ThunderOwned$Sheet", "cells", "[I", true)
  | 1 => ("ThunderOwned$Sheet", "present", "Z", false)
  | 2 => ("ThunderOwned$Sheet", "lane", "I", false)
  | _ => ("ThunderOwned$Sheet", "length", "I", false)
def tn_ty2 : Nat → FieldType := fun k => match k with
  | 0 => .array .int
  | 1 => .boolean
  | 2 => .int
  | _ => .int
theorem tn_nm2 : ∀ a, a < 4 → ∀ b, b < 4 → a ≠ b → (tn_T2 a).2.1 ≠ (tn_T2 b).2.1 := by decide +kernel
theorem tn_tk2 : ∀ k, k < 4 → parseFieldDescriptor (tn_T2 k).2.2.1 = some (tn_ty2 k) := by decide +kernel
def tn_T3 : u_T := fun k => match k with
  | 0 => ("ThunderOwned$Stone", "hides", "I", false)
  | _ => ("ThunderOwned$Stone", "laid", "Z", false)
def tn_ty3 : Nat → FieldType := fun k => match k with
  | 0 => .int
  | _ => .boolean
theorem tn_nm3 : ∀ a, a < 2 → ∀ b, b < 2 → a ≠ b → (tn_T3 a).2.1 ≠ (tn_T3 b).2.1 := by decide +kernel
theorem tn_tk3 : ∀ k, k < 2 → parseFieldDescriptor (tn_T3 k).2.2.1 = some (tn_ty3 k) := by decide +kernel
def tn_T4 : u_T := fun k => match k with
  | 0 => ("ThunderOwned$TextReader", "draft", "LThunderOwned$Parish;", true)
  | 1 => ("ThunderOwned$TextReader", "due", "I", false)
  | 2 => ("ThunderOwned$TextReader", "kind", "I", false)
  | _ => ("ThunderOwned$TextReader", "wrong", "I", false)
def tn_ty4 : Nat → FieldType := fun k => match k with
  | 0 => .object "ThunderOwned$Parish"
  | 1 => .int
  | 2 => .int
  | _ => .int
theorem tn_nm4 : ∀ a, a < 4 → ∀ b, b < 4 → a ≠ b → (tn_T4 a).2.1 ≠ (tn_T4 b).2.1 := by decide +kernel
theorem tn_tk4 : ∀ k, k < 4 → parseFieldDescriptor (tn_T4 k).2.2.1 = some (tn_ty4 k) := by decide +kernel
def tn_T5 : u_T := fun k => match k with
  | 0 => ("ThunderOwned", "now", "LThunderOwned$Parish;", true)
  | 1 => ("ThunderOwned", "trial", "LThunderOwned$Parish;", true)
  | 2 => ("ThunderOwned", "sheets", "[LThunderOwned$Sheet;", true)
  | 3 => ("ThunderOwned", "readingNights", "[I", true)
  | 4 => ("ThunderOwned", "readingVoices", "[I", true)
  | 5 => ("ThunderOwned", "nightsOfChoice", "[I", true)
  | 6 => ("ThunderOwned", "readingCount", "I", false)
  | 7 => ("ThunderOwned", "nightsGone", "I", false)
  | 8 => ("ThunderOwned", "traceLeft", "I", false)
  | _ => ("ThunderOwned", "latestFault", "I", false)
def tn_ty5 : Nat → FieldType := fun k => match k with
  | 0 => .object "ThunderOwned$Parish"
  | 1 => .object "ThunderOwned$Parish"
  | 2 => .array (.object "ThunderOwned$Sheet")
  | 3 => .array .int
  | 4 => .array .int
  | 5 => .array .int
  | 6 => .int
  | 7 => .int
  | 8 => .int
  | _ => .int
theorem tn_nm5 : ∀ a, a < 10 → ∀ b, b < 10 → a ≠ b → (tn_T5 a).2.1 ≠ (tn_T5 b).2.1 := by decide +kernel
theorem tn_tk5 : ∀ k, k < 10 → parseFieldDescriptor (tn_T5 k).2.2.1 = some (tn_ty5 k) := by decide +kernel
def tn_T6 : u_T := fun k => match k with
  | 0 => ("ThunderOwnedModel", "fault", "I", false)
  | 1 => ("ThunderOwnedModel", "trace", "I", false)
  | 2 => ("ThunderOwnedModel", "sorts", "[I", true)
  | 3 => ("ThunderOwnedModel", "sheetLong", "[I", true)
  | 4 => ("ThunderOwnedModel", "cells", "[I", true)
  | 5 => ("ThunderOwnedModel", "houses", "I", false)
  | 6 => ("ThunderOwnedModel", "stones", "I", false)
  | 7 => ("ThunderOwnedModel", "step", "I", false)
  | 8 => ("ThunderOwnedModel", "hangs", "I", false)
  | 9 => ("ThunderOwnedModel", "nights", "I", false)
  | 10 => ("ThunderOwnedModel", "hats", "I", false)
  | 11 => ("ThunderOwnedModel", "owned", "I", false)
  | 12 => ("ThunderOwnedModel", "laid", "I", false)
  | 13 => ("ThunderOwnedModel", "kind", "[I", true)
  | 14 => ("ThunderOwnedModel", "wrong", "[I", true)
  | 15 => ("ThunderOwnedModel", "sleep", "[I", true)
  | 16 => ("ThunderOwnedModel", "hatsOf", "[I", true)
  | 17 => ("ThunderOwnedModel", "hides", "[I", true)
  | 18 => ("ThunderOwnedModel", "at", "I", false)
  | 19 => ("ThunderOwnedModel", "readHouses", "I", false)
  | 20 => ("ThunderOwnedModel", "readStones", "I", false)
  | 21 => ("ThunderOwnedModel", "readStep", "I", false)
  | 22 => ("ThunderOwnedModel", "read", "[I", true)
  | 23 => ("ThunderOwnedModel", "readHides", "[I", true)
  | 24 => ("ThunderOwnedModel", "kept", "[I", true)
  | 25 => ("ThunderOwnedModel", "pains", "[I", true)
  | 26 => ("ThunderOwnedModel", "readings", "I", false)
  | 27 => ("ThunderOwnedModel", "readBehind", "[I", true)
  | _ => ("ThunderOwnedModel", "readVoice", "[I", true)
def tn_ty6 : Nat → FieldType := fun k => match k with
  | 0 => .int
  | 1 => .int
  | 2 => .array .int
  | 3 => .array .int
  | 4 => .array .int
  | 5 => .int
  | 6 => .int
  | 7 => .int
  | 8 => .int
  | 9 => .int
  | 10 => .int
  | 11 => .int
  | 12 => .int
  | 13 => .array .int
  | 14 => .array .int
  | 15 => .array .int
  | 16 => .array .int
  | 17 => .array .int
  | 18 => .int
  | 19 => .int
  | 20 => .int
  | 21 => .int
  | 22 => .array .int
  | 23 => .array .int
  | 24 => .array .int
  | 25 => .array .int
  | 26 => .int
  | 27 => .array .int
  | _ => .array .int
theorem tn_nm6 : ∀ a, a < 29 → ∀ b, b < 29 → a ≠ b → (tn_T6 a).2.1 ≠ (tn_T6 b).2.1 := by decide +kernel
theorem tn_tk6 : ∀ k, k < 29 → parseFieldDescriptor (tn_T6 k).2.2.1 = some (tn_ty6 k) := by decide +kernel
abbrev tn_cl : List vw_C := [("ThunderOwned$House", tn_T0, 5), ("ThunderOwned$Parish", tn_T1, 6), ("ThunderOwned$Sheet", tn_T2, 4), ("ThunderOwned$Stone", tn_T3, 2), ("ThunderOwned$TextReader", tn_T4, 4), ("ThunderOwned", tn_T5, 10), ("ThunderOwnedModel", tn_T6, 29)]
def tn_N : Nat → Nat := fun i => match i with
  | 0 => 5
  | 1 => 6
  | 2 => 4
  | 3 => 2
  | 4 => 4
  | 5 => 10
  | _ => 29
def tn_rl : Nat → List Nat := fun i => match i with
  | 0 => []
  | 1 => [0, 1]
  | 2 => [0]
  | 3 => []
  | 4 => [0]
  | 5 => [0, 1, 2, 3, 4, 5]
  | _ => [2, 3, 4, 13, 14, 15, 16, 17, 22, 23, 24, 25, 27, 28]
def tn_isR (i k : Nat) : Bool := (tn_rl i).contains k
/-- the words that every method may use -/
def tn_tbl : List Cond := lw_tbl.filter goodWord
def tn_isN : Cond → Bool
  | .fieldLinkNest .. => true
  | .methodLinkNest .. => true
  | _ => false
def tn_nst : List Cond := lw_tbl.filter tn_isN
theorem tn_w (i : Nat) {w : Cond} (h : lw_tbl[i]? = some w) (hg : goodWord w = true) : w ∈ tn_tbl := List.mem_filter.mpr ⟨List.mem_of_getElem? h, hg⟩
theorem tn_wn (i : Nat) {w : Cond} (h : lw_tbl[i]? = some w) (hg : tn_isN w = true) : w ∈ tn_nst := List.mem_filter.mpr ⟨List.mem_of_getElem? h, hg⟩
theorem tn_wl {l : List Cond} {ps : List Nat} (h : l.map some = ps.map (fun i => lw_tbl[i]?)) (hg : l.all goodWord = true) : ∀ w ∈ l, w ∈ tn_tbl := by
  intro w hw
  have h1 : some w ∈ ps.map (fun i => lw_tbl[i]?) := by rw [← h]; exact List.mem_map.mpr ⟨w, hw, rfl⟩
  obtain ⟨i, -, hi⟩ := List.mem_map.mp h1
  exact tn_w i hi (List.all_eq_true.mp hg w hw)
theorem tn_us0 : ∀ w ∈ u_ws "ThunderOwned$House" tn_T0 5, w ∈ tn_tbl := tn_wl (ps := [131, 133, 135, 137, 139]) (by decide +kernel) (by decide +kernel)
theorem tn_us1 : ∀ w ∈ u_ws "ThunderOwned$Parish" tn_T1 6, w ∈ tn_tbl := tn_wl (ps := [173, 175, 177, 179, 181, 183]) (by decide +kernel) (by decide +kernel)
theorem tn_us2 : ∀ w ∈ u_ws "ThunderOwned$Sheet" tn_T2 4, w ∈ tn_tbl := tn_wl (ps := [200, 202, 204, 206]) (by decide +kernel) (by decide +kernel)
theorem tn_us3 : ∀ w ∈ u_ws "ThunderOwned$Stone" tn_T3 2, w ∈ tn_tbl := tn_wl (ps := [153, 155]) (by decide +kernel) (by decide +kernel)
theorem tn_us4 : ∀ w ∈ u_ws "ThunderOwned$TextReader" tn_T4 4, w ∈ tn_tbl := tn_wl (ps := [283, 285, 287, 289]) (by decide +kernel) (by decide +kernel)
theorem tn_us5 : ∀ w ∈ u_ws "ThunderOwned" tn_T5 10, w ∈ tn_tbl := tn_wl (ps := [220, 222, 224, 226, 228, 230, 232, 234, 236, 238]) (by decide +kernel) (by decide +kernel)
theorem tn_us6 : ∀ w ∈ u_ws "ThunderOwnedModel" tn_T6 29, w ∈ tn_tbl := tn_wl (ps := [680, 682, 684, 686, 688, 690, 692, 694, 696, 698, 700, 702, 704, 706, 708, 710, 712, 714, 716, 718, 720, 722, 724, 726, 728, 730, 732, 734, 736]) (by decide +kernel) (by decide +kernel)
