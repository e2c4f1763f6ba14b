def k_F0 : u_T := fun k => match k with
  | 0 => ("BundleAuction", "cashOf", "[I", true)
  | 1 => ("BundleAuction", "escrowOf", "[I", true)
  | 2 => ("BundleAuction", "reserveOf", "[I", true)
  | 3 => ("BundleAuction", "ownerOf", "[I", true)
  | 4 => ("BundleAuction", "paidBy", "[I", true)
  | 5 => ("BundleAuction", "partsOf", "[I", true)
  | 6 => ("BundleAuction", "worthOf", "[[I", true)
  | 7 => ("BundleAuction", "reader", "LBundleAuction$BidReader;", true)
  | 8 => ("BundleAuction", "sharing", "LBundleAuction$Sharing;", true)
  | 9 => ("BundleAuction", "sellerAccount", "I", false)
  | _ => ("BundleAuction", "closed", "Z", false)
def k_t0 : Nat → FieldType := fun k => match k with
  | 0 => .array .int
  | 1 => .array .int
  | 2 => .array .int
  | 3 => .array .int
  | 4 => .array .int
  | 5 => .array .int
  | 6 => .array (.array .int)
  | 7 => .object "BundleAuction$BidReader"
  | 8 => .object "BundleAuction$Sharing"
  | 9 => .int
  | _ => .boolean
def k_F1 : u_T := fun k => match k with
  | 0 => ("BundleAuction$BidReader", "text", "[C", true)
  | 1 => ("BundleAuction$BidReader", "length", "I", false)
  | 2 => ("BundleAuction$BidReader", "place", "I", false)
  | 3 => ("BundleAuction$BidReader", "number", "I", false)
  | 4 => ("BundleAuction$BidReader", "partCount", "I", false)
  | 5 => ("BundleAuction$BidReader", "value", "[I", true)
  | 6 => ("BundleAuction$BidReader", "choices", "[[I", true)
  | _ => ("BundleAuction$BidReader", "sums", "[[I", true)
def k_t1 : Nat → FieldType := fun k => match k with
  | 0 => .array .char
  | 1 => .int
  | 2 => .int
  | 3 => .int
  | 4 => .int
  | 5 => .array .int
  | 6 => .array (.array .int)
  | _ => .array (.array .int)
def k_F2 : u_T := fun k => match k with
  | 0 => ("BundleAuction$Sharing", "setRank", "[I", true)
  | 1 => ("BundleAuction$Sharing", "total", "[I", true)
  | _ => ("BundleAuction$Sharing", "own", "[I", true)
def k_t2 : Nat → FieldType := fun k => match k with
  | 0 => .array .int
  | 1 => .array .int
  | _ => .array .int
def k_F3 : u_T := fun k => match k with
  | 0 => ("BundleAuctionModel", "closed", "Z", false)
  | 1 => ("BundleAuctionModel", "money", "[I", false)
  | 2 => ("BundleAuctionModel", "behind", "[I", false)
  | 3 => ("BundleAuctionModel", "account", "I", false)
  | 4 => ("BundleAuctionModel", "reserves", "[I", false)
  | 5 => ("BundleAuctionModel", "length", "I", false)
  | 6 => ("BundleAuctionModel", "text", "[I", false)
  | 7 => ("BundleAuctionModel", "bid", "[I", false)
  | 8 => ("BundleAuctionModel", "size", "[I", false)
  | 9 => ("BundleAuctionModel", "table", "[I", false)
  | 10 => ("BundleAuctionModel", "tables", "I", false)
  | 11 => ("BundleAuctionModel", "sum", "[I", false)
  | 12 => ("BundleAuctionModel", "wait", "[I", false)
  | 13 => ("BundleAuctionModel", "waits", "I", false)
  | 14 => ("BundleAuctionModel", "at", "I", false)
  | 15 => ("BundleAuctionModel", "found", "I", false)
  | 16 => ("BundleAuctionModel", "gets", "[I", false)
  | 17 => ("BundleAuctionModel", "sold", "[I", false)
  | _ => ("BundleAuctionModel", "price", "[I", false)
def k_t3 : Nat → FieldType := fun k => match k with
  | 0 => .boolean
  | 1 => .array .int
  | 2 => .array .int
  | 3 => .int
  | 4 => .array .int
  | 5 => .int
  | 6 => .array .int
  | 7 => .array .int
  | 8 => .array .int
  | 9 => .array .int
  | 10 => .int
  | 11 => .array .int
  | 12 => .array .int
  | 13 => .int
  | 14 => .int
  | 15 => .int
  | 16 => .array .int
  | 17 => .array .int
  | _ => .array .int
def k_rf : Nat → Nat → Bool := fun ci k => match ci with
  | 0 => [0, 1, 2, 3, 4, 5, 6, 7, 8].contains k
  | 1 => [0, 5, 6, 7].contains k
  | 2 => [0, 1, 2].contains k
  | _ => [1, 2, 4, 6, 7, 8, 9, 11, 12, 16, 17, 18].contains k
abbrev k_r0 : vw_C := ("BundleAuction", k_F0, 11)
abbrev k_r1 : vw_C := ("BundleAuction$BidReader", k_F1, 8)
abbrev k_r2 : vw_C := ("BundleAuction$Sharing", k_F2, 3)
abbrev k_r3 : vw_C := ("BundleAuctionModel", k_F3, 19)
abbrev k_cl : List vw_C := [k_r0, k_r1, k_r2, k_r3]
def am_isN : Cond → Bool
  | .fieldLinkNest _ _ _ _ _ _ => true
  | .methodLinkNest _ _ _ _ => true
  | .arrayOver (.array _) => true
  | _ => false
def K0 : am_Cfg := (k_cl, k_rf, lw_tbl.filter goodWord, lw_tbl.filter am_isN, [("BundleAuction$Sharing", "ITEM_RANK", "[I", 1001)])
theorem k_ok : am_ok K0 := by
  refine ⟨fun w hw => good_of_word (List.mem_filter.mp hw).2, fun w hw => ?_⟩
  have h := (List.mem_filter.mp hw).2
  unfold am_isN at h
  split at h
  · exact ⟨am_nestF _ _ _ _ _ _, fun u U h hz => va_Nw.same rfl h hz⟩
  · exact ⟨am_nestM _ _ _ _, fun u U h hz => va_Nw.same rfl h hz⟩
  · exact ⟨fun s U hW hz => over_moved hW.alike hz, fun u U h hz => over_moved (h ▸ Vm.Alike.refl _) hz⟩
  · cases h
theorem tw (i : Nat) {w : Cond} (h : tables_1[i]? = some w) (hg : goodWord w = true) : w ∈ am_ts K0 := List.mem_filter.mpr ⟨List.mem_append_right _ (List.mem_of_getElem? h), hg⟩
theorem tn (i : Nat) {w : Cond} (h : tables_1[i]? = some w) (hg : am_isN w = true) : w ∈ am_ns K0 := List.mem_filter.mpr ⟨List.mem_append_right _ (List.mem_of_getElem? h), hg⟩
theorem tp (i : Nat) {w : Cond} (h : (k2_sels lw_privs)[i]? = some w) (hg : goodWord w = true) : w ∈ am_ts K0 := List.mem_filter.mpr ⟨List.mem_append_left _ (List.mem_of_getElem? h), hg⟩
theorem am_at {b : ByteArray} {cd : List (Nat × Instr × Nat)} (h : ∀ q ∈ cd, decode b q.1 = .ok (q.2.1, q.2.2)) (i : Nat) {pc n : Nat} {ins : Instr} (hq : cd[i]? = some (pc, ins, n)) : decode b pc = .ok (ins, n) := h (pc, ins, n) (List.mem_of_getElem? hq)
theorem k_ok0 : am_clok K0 k_r0 k_t0 := by
  refine ⟨fun w hw => ?_, by decide +kernel, by decide +kernel⟩
  obtain ⟨k, hk, rfl⟩ := List.mem_map.mp hw
  have hk : k < 11 := List.mem_range.mp hk
  have h : k = 0 ∨ k = 1 ∨ k = 2 ∨ k = 3 ∨ k = 4 ∨ k = 5 ∨ k = 6 ∨ k = 7 ∨ k = 8 ∨ k = 9 ∨ k = 10 := by omega
  rcases h with rfl | rfl | rfl | rfl | rfl | rfl | rfl | rfl | rfl | rfl | rfl
  · exact tw 86 rfl rfl
  · exact tw 88 rfl rfl
  · exact tw 90 rfl rfl
  · exact tw 92 rfl rfl
  · exact tw 94 rfl rfl
  · exact tw 96 rfl rfl
  · exact tw 98 rfl rfl
  · exact tw 100 rfl rfl
  · exact tw 102 rfl rfl
  · exact tw 104 rfl rfl
  · exact tw 106 rfl rfl
theorem k_ok1 : am_clok K0 k_r1 k_t1 := by
  refine ⟨fun w hw => ?_, by decide +kernel, by decide +kernel⟩
  obtain ⟨k, hk, rfl⟩ := List.mem_map.mp hw
  have hk : k < 8 := List.mem_range.mp hk
  have h : k = 0 ∨ k = 1 ∨ k = 2 ∨ k = 3 ∨ k = 4 ∨ k = 5 ∨ k = 6 ∨ k = 7 := by omega
  rcases h with rfl | rfl | rfl | rfl | rfl | rfl | rfl | rfl
  · exact tw 35 rfl rfl
  · exact tw 37 rfl rfl
  · exact tw 39 rfl rfl
  · exact tw 41 rfl rfl
  · exact tw 43 rfl rfl
  · exact tw 45 rfl rfl
  · exact tw 47 rfl rfl
  · exact tw 49 rfl rfl
theorem k_ok2 : am_clok K0 k_r2 k_t2 := by
  refine ⟨fun w hw => ?_, by decide +kernel, by decide +kernel⟩
  obtain ⟨k, hk, rfl⟩ := List.mem_map.mp hw
  have hk : k < 3 := List.mem_range.mp hk
  have h : k = 0 ∨ k = 1 ∨ k = 2 := by omega
  rcases h with rfl | rfl | rfl
  · exact tw 68 rfl rfl
  · exact tw 70 rfl rfl
  · exact tw 72 rfl rfl
theorem k_ok3 : am_clok K0 k_r3 k_t3 := by
  refine ⟨fun w hw => ?_, by decide +kernel, by decide +kernel⟩
  obtain ⟨k, hk, rfl⟩ := List.mem_map.mp hw
  have hk : k < 19 := List.mem_range.mp hk
  have h : k = 0 ∨ k = 1 ∨ k = 2 ∨ k = 3 ∨ k = 4 ∨ k = 5 ∨ k = 6 ∨ k = 7 ∨ k = 8 ∨ k = 9 ∨ k = 10 ∨ k = 11 ∨ k = 12 ∨ k = 13 ∨ k = 14 ∨ k = 15 ∨ k = 16 ∨ k = 17 ∨ k = 18 := by omega
  rcases h with rfl | rfl | rfl | rfl | rfl | rfl | rfl | rfl | rfl | rfl | rfl | rfl | rfl | rfl | rfl | rfl | rfl | rfl | rfl
  · exact tw 325 rfl rfl
  · exact tw 327 rfl rfl
  · exact tw 329 rfl rfl
  · exact tw 331 rfl rfl
  · exact tw 333 rfl rfl
  · exact tw 335 rfl rfl
  · exact tw 337 rfl rfl
  · exact tw 339 rfl rfl
  · exact tw 341 rfl rfl
  · exact tw 343 rfl rfl
  · exact tw 345 rfl rfl
  · exact tw 347 rfl rfl
  · exact tw 349 rfl rfl
  · exact tw 351 rfl rfl
  · exact tw 353 rfl rfl
  · exact tw 355 rfl rfl
  · exact tw 357 rfl rfl
  · exact tw 359 rfl rfl
  · exact tw 361 rfl rfl
