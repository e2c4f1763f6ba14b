section
-- ===== PART A: goes FIRST, ahead of the names: the tables' words, and 'selects' of the private methods out of them =====
/-- a private method of a class that the tables say can be made, by its rows of tables_1 -/
def lw_okq (q : MethodName × Nat) : Prop := (q.1.cls ≠ "java/lang/invoke/MethodHandle" ∧ q.1.cls ≠ "java/lang/invoke/VarHandle") ∧ Cond.instantiable q.1.cls q.2 ∈ tables_1 ∧ Cond.privateMethod q.1 ∈ tables_1 ∧ Cond.instanceMethod q.1 ∈ tables_1
theorem lw_p0 : lw_okq (⟨"BundleAuction", "dropBid", "(I)V"⟩, 11) := ⟨⟨by decide +kernel, by decide +kernel⟩, List.mem_of_getElem? (i := 9) (by decide +kernel), List.mem_of_getElem? (i := 127) (by decide +kernel), List.mem_of_getElem? (i := 128) (by decide +kernel)⟩
theorem lw_p1 : lw_okq (⟨"BundleAuction", "giveBack", "(I)V"⟩, 11) := ⟨⟨by decide +kernel, by decide +kernel⟩, List.mem_of_getElem? (i := 9) (by decide +kernel), List.mem_of_getElem? (i := 134) (by decide +kernel), List.mem_of_getElem? (i := 135) (by decide +kernel)⟩
theorem lw_p2 : lw_okq (⟨"BundleAuction$BidReader", "readBid", "(I)Z"⟩, 8) := ⟨⟨by decide +kernel, by decide +kernel⟩, List.mem_of_getElem? (i := 19) (by decide +kernel), List.mem_of_getElem? (i := 161) (by decide +kernel), List.mem_of_getElem? (i := 162) (by decide +kernel)⟩
theorem lw_p3 : lw_okq (⟨"BundleAuction$BidReader", "readSum", "(I)Z"⟩, 8) := ⟨⟨by decide +kernel, by decide +kernel⟩, List.mem_of_getElem? (i := 19) (by decide +kernel), List.mem_of_getElem? (i := 166) (by decide +kernel), List.mem_of_getElem? (i := 167) (by decide +kernel)⟩
theorem lw_p4 : lw_okq (⟨"BundleAuction$BidReader", "readCapped", "(I)Z"⟩, 8) := ⟨⟨by decide +kernel, by decide +kernel⟩, List.mem_of_getElem? (i := 19) (by decide +kernel), List.mem_of_getElem? (i := 170) (by decide +kernel), List.mem_of_getElem? (i := 171) (by decide +kernel)⟩
theorem lw_p5 : lw_okq (⟨"BundleAuction$BidReader", "readAtom", "(I)Z"⟩, 8) := ⟨⟨by decide +kernel, by decide +kernel⟩, List.mem_of_getElem? (i := 19) (by decide +kernel), List.mem_of_getElem? (i := 174) (by decide +kernel), List.mem_of_getElem? (i := 175) (by decide +kernel)⟩
theorem lw_p6 : lw_okq (⟨"BundleAuction$BidReader", "sees", "(C)Z"⟩, 8) := ⟨⟨by decide +kernel, by decide +kernel⟩, List.mem_of_getElem? (i := 19) (by decide +kernel), List.mem_of_getElem? (i := 178) (by decide +kernel), List.mem_of_getElem? (i := 179) (by decide +kernel)⟩
theorem lw_p7 : lw_okq (⟨"BundleAuction$BidReader", "beginPart", "()Z"⟩, 8) := ⟨⟨by decide +kernel, by decide +kernel⟩, List.mem_of_getElem? (i := 19) (by decide +kernel), List.mem_of_getElem? (i := 182) (by decide +kernel), List.mem_of_getElem? (i := 183) (by decide +kernel)⟩
theorem lw_p8 : lw_okq (⟨"BundleAuction$BidReader", "readNumber", "()Z"⟩, 8) := ⟨⟨by decide +kernel, by decide +kernel⟩, List.mem_of_getElem? (i := 19) (by decide +kernel), List.mem_of_getElem? (i := 186) (by decide +kernel), List.mem_of_getElem? (i := 187) (by decide +kernel)⟩
theorem lw_p9 : lw_okq (⟨"BundleAuction$BidReader", "seesDigit", "()Z"⟩, 8) := ⟨⟨by decide +kernel, by decide +kernel⟩, List.mem_of_getElem? (i := 19) (by decide +kernel), List.mem_of_getElem? (i := 190) (by decide +kernel), List.mem_of_getElem? (i := 191) (by decide +kernel)⟩
theorem lw_p10 : lw_okq (⟨"BundleAuction$BidReader", "readLetters", "()Z"⟩, 8) := ⟨⟨by decide +kernel, by decide +kernel⟩, List.mem_of_getElem? (i := 19) (by decide +kernel), List.mem_of_getElem? (i := 194) (by decide +kernel), List.mem_of_getElem? (i := 195) (by decide +kernel)⟩
theorem lw_p11 : lw_okq (⟨"BundleAuction$BidReader", "seesLetter", "()Z"⟩, 8) := ⟨⟨by decide +kernel, by decide +kernel⟩, List.mem_of_getElem? (i := 19) (by decide +kernel), List.mem_of_getElem? (i := 198) (by decide +kernel), List.mem_of_getElem? (i := 199) (by decide +kernel)⟩
theorem lw_p12 : lw_okq (⟨"BundleAuction$BidReader", "takeSign", "()Z"⟩, 8) := ⟨⟨by decide +kernel, by decide +kernel⟩, List.mem_of_getElem? (i := 19) (by decide +kernel), List.mem_of_getElem? (i := 202) (by decide +kernel), List.mem_of_getElem? (i := 203) (by decide +kernel)⟩
theorem lw_p13 : lw_okq (⟨"BundleAuction$BidReader", "capValue", "()V"⟩, 8) := ⟨⟨by decide +kernel, by decide +kernel⟩, List.mem_of_getElem? (i := 19) (by decide +kernel), List.mem_of_getElem? (i := 206) (by decide +kernel), List.mem_of_getElem? (i := 207) (by decide +kernel)⟩
theorem lw_p14 : lw_okq (⟨"BundleAuction$BidReader", "keepGreater", "([I)V"⟩, 8) := ⟨⟨by decide +kernel, by decide +kernel⟩, List.mem_of_getElem? (i := 19) (by decide +kernel), List.mem_of_getElem? (i := 222) (by decide +kernel), List.mem_of_getElem? (i := 223) (by decide +kernel)⟩
theorem lw_p15 : lw_okq (⟨"BundleAuction$Sharing", "scoreBidder", "([II)V"⟩, 3) := ⟨⟨by decide +kernel, by decide +kernel⟩, List.mem_of_getElem? (i := 55) (by decide +kernel), List.mem_of_getElem? (i := 249) (by decide +kernel), List.mem_of_getElem? (i := 250) (by decide +kernel)⟩
def lw_privs_1 : List (MethodName × Nat) := [(⟨"BundleAuction", "dropBid", "(I)V"⟩, 11), (⟨"BundleAuction", "giveBack", "(I)V"⟩, 11), (⟨"BundleAuction$BidReader", "readBid", "(I)Z"⟩, 8), (⟨"BundleAuction$BidReader", "readSum", "(I)Z"⟩, 8), (⟨"BundleAuction$BidReader", "readCapped", "(I)Z"⟩, 8), (⟨"BundleAuction$BidReader", "readAtom", "(I)Z"⟩, 8), (⟨"BundleAuction$BidReader", "sees", "(C)Z"⟩, 8), (⟨"BundleAuction$BidReader", "beginPart", "()Z"⟩, 8), (⟨"BundleAuction$BidReader", "readNumber", "()Z"⟩, 8), (⟨"BundleAuction$BidReader", "seesDigit", "()Z"⟩, 8), (⟨"BundleAuction$BidReader", "readLetters", "()Z"⟩, 8), (⟨"BundleAuction$BidReader", "seesLetter", "()Z"⟩, 8), (⟨"BundleAuction$BidReader", "takeSign", "()Z"⟩, 8), (⟨"BundleAuction$BidReader", "capValue", "()V"⟩, 8), (⟨"BundleAuction$BidReader", "keepGreater", "([I)V"⟩, 8), (⟨"BundleAuction$Sharing", "scoreBidder", "([II)V"⟩, 3)]
theorem lw_r1 : ∀ q ∈ lw_privs_1, lw_okq q := List.forall_mem_cons.mpr ⟨lw_p0, List.forall_mem_cons.mpr ⟨lw_p1, List.forall_mem_cons.mpr ⟨lw_p2, List.forall_mem_cons.mpr ⟨lw_p3, List.forall_mem_cons.mpr ⟨lw_p4, List.forall_mem_cons.mpr ⟨lw_p5, List.forall_mem_cons.mpr ⟨lw_p6, List.forall_mem_cons.mpr ⟨lw_p7, List.forall_mem_cons.mpr ⟨lw_p8, List.forall_mem_cons.mpr ⟨lw_p9, List.forall_mem_cons.mpr ⟨lw_p10, List.forall_mem_cons.mpr ⟨lw_p11, List.forall_mem_cons.mpr ⟨lw_p12, List.forall_mem_cons.mpr ⟨lw_p13, List.forall_mem_cons.mpr ⟨lw_p14, List.forall_mem_cons.mpr ⟨lw_p15, fun _ h => absurd h List.not_mem_nil⟩⟩⟩⟩⟩⟩⟩⟩⟩⟩⟩⟩⟩⟩⟩⟩
theorem lw_p16 : lw_okq (⟨"BundleAuction", "settle", "(II)V"⟩, 11) := ⟨⟨by decide +kernel, by decide +kernel⟩, List.mem_of_getElem? (i := 9) (by decide +kernel), List.mem_of_getElem? (i := 265) (by decide +kernel), List.mem_of_getElem? (i := 266) (by decide +kernel)⟩
theorem lw_p17 : lw_okq (⟨"BundleAuction", "setOf", "(I)I"⟩, 11) := ⟨⟨by decide +kernel, by decide +kernel⟩, List.mem_of_getElem? (i := 9) (by decide +kernel), List.mem_of_getElem? (i := 269) (by decide +kernel), List.mem_of_getElem? (i := 270) (by decide +kernel)⟩
theorem lw_p18 : lw_okq (⟨"BundleAuctionModel", "drop", "(I)V"⟩, 19) := ⟨⟨by decide +kernel, by decide +kernel⟩, List.mem_of_getElem? (i := 301) (by decide +kernel), List.mem_of_getElem? (i := 382) (by decide +kernel), List.mem_of_getElem? (i := 383) (by decide +kernel)⟩
theorem lw_p19 : lw_okq (⟨"BundleAuctionModel", "fault", "()I"⟩, 19) := ⟨⟨by decide +kernel, by decide +kernel⟩, List.mem_of_getElem? (i := 301) (by decide +kernel), List.mem_of_getElem? (i := 398) (by decide +kernel), List.mem_of_getElem? (i := 399) (by decide +kernel)⟩
theorem lw_p20 : lw_okq (⟨"BundleAuctionModel", "digit", "(I)Z"⟩, 19) := ⟨⟨by decide +kernel, by decide +kernel⟩, List.mem_of_getElem? (i := 301) (by decide +kernel), List.mem_of_getElem? (i := 402) (by decide +kernel), List.mem_of_getElem? (i := 403) (by decide +kernel)⟩
theorem lw_p21 : lw_okq (⟨"BundleAuctionModel", "letter", "(I)Z"⟩, 19) := ⟨⟨by decide +kernel, by decide +kernel⟩, List.mem_of_getElem? (i := 301) (by decide +kernel), List.mem_of_getElem? (i := 406) (by decide +kernel), List.mem_of_getElem? (i := 407) (by decide +kernel)⟩
theorem lw_p22 : lw_okq (⟨"BundleAuctionModel", "read", "()V"⟩, 19) := ⟨⟨by decide +kernel, by decide +kernel⟩, List.mem_of_getElem? (i := 301) (by decide +kernel), List.mem_of_getElem? (i := 410) (by decide +kernel), List.mem_of_getElem? (i := 411) (by decide +kernel)⟩
theorem lw_p23 : lw_okq (⟨"BundleAuctionModel", "bundle", "()V"⟩, 19) := ⟨⟨by decide +kernel, by decide +kernel⟩, List.mem_of_getElem? (i := 301) (by decide +kernel), List.mem_of_getElem? (i := 414) (by decide +kernel), List.mem_of_getElem? (i := 415) (by decide +kernel)⟩
theorem lw_p24 : lw_okq (⟨"BundleAuctionModel", "number", "()I"⟩, 19) := ⟨⟨by decide +kernel, by decide +kernel⟩, List.mem_of_getElem? (i := 301) (by decide +kernel), List.mem_of_getElem? (i := 418) (by decide +kernel), List.mem_of_getElem? (i := 419) (by decide +kernel)⟩
theorem lw_p25 : lw_okq (⟨"BundleAuctionModel", "hold", "(I)V"⟩, 19) := ⟨⟨by decide +kernel, by decide +kernel⟩, List.mem_of_getElem? (i := 301) (by decide +kernel), List.mem_of_getElem? (i := 422) (by decide +kernel), List.mem_of_getElem? (i := 423) (by decide +kernel)⟩
theorem lw_p26 : lw_okq (⟨"BundleAuctionModel", "reduce", "(Z)V"⟩, 19) := ⟨⟨by decide +kernel, by decide +kernel⟩, List.mem_of_getElem? (i := 301) (by decide +kernel), List.mem_of_getElem? (i := 426) (by decide +kernel), List.mem_of_getElem? (i := 427) (by decide +kernel)⟩
theorem lw_p27 : lw_okq (⟨"BundleAuctionModel", "join", "(I)V"⟩, 19) := ⟨⟨by decide +kernel, by decide +kernel⟩, List.mem_of_getElem? (i := 301) (by decide +kernel), List.mem_of_getElem? (i := 430) (by decide +kernel), List.mem_of_getElem? (i := 431) (by decide +kernel)⟩
theorem lw_p28 : lw_okq (⟨"BundleAuctionModel", "bestOf", "(I)I"⟩, 19) := ⟨⟨by decide +kernel, by decide +kernel⟩, List.mem_of_getElem? (i := 301) (by decide +kernel), List.mem_of_getElem? (i := 446) (by decide +kernel), List.mem_of_getElem? (i := 447) (by decide +kernel)⟩
theorem lw_p29 : lw_okq (⟨"BundleAuctionModel", "welfareOf", "(II)I"⟩, 19) := ⟨⟨by decide +kernel, by decide +kernel⟩, List.mem_of_getElem? (i := 301) (by decide +kernel), List.mem_of_getElem? (i := 451) (by decide +kernel), List.mem_of_getElem? (i := 452) (by decide +kernel)⟩
def lw_privs_2 : List (MethodName × Nat) := [(⟨"BundleAuction", "settle", "(II)V"⟩, 11), (⟨"BundleAuction", "setOf", "(I)I"⟩, 11), (⟨"BundleAuctionModel", "drop", "(I)V"⟩, 19), (⟨"BundleAuctionModel", "fault", "()I"⟩, 19), (⟨"BundleAuctionModel", "digit", "(I)Z"⟩, 19), (⟨"BundleAuctionModel", "letter", "(I)Z"⟩, 19), (⟨"BundleAuctionModel", "read", "()V"⟩, 19), (⟨"BundleAuctionModel", "bundle", "()V"⟩, 19), (⟨"BundleAuctionModel", "number", "()I"⟩, 19), (⟨"BundleAuctionModel", "hold", "(I)V"⟩, 19), (⟨"BundleAuctionModel", "reduce", "(Z)V"⟩, 19), (⟨"BundleAuctionModel", "join", "(I)V"⟩, 19), (⟨"BundleAuctionModel", "bestOf", "(I)I"⟩, 19), (⟨"BundleAuctionModel", "welfareOf", "(II)I"⟩, 19)]
theorem lw_r2 : ∀ q ∈ lw_privs_2, lw_okq q := List.forall_mem_cons.mpr ⟨lw_p16, List.forall_mem_cons.mpr ⟨lw_p17, List.forall_mem_cons.mpr ⟨lw_p18, List.forall_mem_cons.mpr ⟨lw_p19, List.forall_mem_cons.mpr ⟨lw_p20, List.forall_mem_cons.mpr ⟨lw_p21, List.forall_mem_cons.mpr ⟨lw_p22, List.forall_mem_cons.mpr ⟨lw_p23, List.forall_mem_cons.mpr ⟨lw_p24, List.forall_mem_cons.mpr ⟨lw_p25, List.forall_mem_cons.mpr ⟨lw_p26, List.forall_mem_cons.mpr ⟨lw_p27, List.forall_mem_cons.mpr ⟨lw_p28, List.forall_mem_cons.mpr ⟨lw_p29, fun _ h => absurd h List.not_mem_nil⟩⟩⟩⟩⟩⟩⟩⟩⟩⟩⟩⟩⟩⟩
def lw_privs : List (MethodName × Nat) := lw_privs_1 ++ (lw_privs_2)
def lw_tbl : List Cond := k2_sels lw_privs ++ tables_1
theorem lw_privs_ok : ∀ q ∈ lw_privs, lw_okq q := by
  show ∀ q ∈ lw_privs_1 ++ (lw_privs_2), lw_okq q
  exact List.forall_mem_append.mpr ⟨lw_r1, lw_r2⟩
end
section
/-! An abstract machine over the kit's walk: addresses are small numbers, a cell is a kind, a length, its references and its ints. -/
abbrev am_S : Type := Nat → Nat × Nat × (Nat → Option Nat)
abbrev am_D : Type := Nat → Nat → Int32
abbrev am_M : Type := MethodName × ByteArray × Nat × Option FieldType
abbrev am_Cfg : Type := List vw_C × (Nat → Nat → Bool) × List Cond × List Cond × List (String × String × String × Nat)
abbrev am_X : Type := (Nat → Nat) × Nat × va_G
abbrev am_cl (C : am_Cfg) : List vw_C := C.1
abbrev am_rf (C : am_Cfg) : Nat → Nat → Bool := C.2.1
abbrev am_ts (C : am_Cfg) : List Cond := C.2.2.1
abbrev am_ns (C : am_Cfg) : List Cond := C.2.2.2.1
abbrev am_zs (C : am_Cfg) : List (String × String × String × Nat) := C.2.2.2.2
abbrev am_ad (x : am_X) : Nat → Nat := x.1
abbrev am_sz (x : am_X) : Nat := x.2.1
abbrev am_dg (x : am_X) : va_G := x.2.2
abbrev am_A (x : am_X) : Nat → Prop := fun q => am_sz x ≤ q
def am_up (ad : Nat → Nat) (v : Value) : Value := match v with
  | .ref a => .ref (ad a)
  | w => w
def am_val (C : am_Cfg) (ad : Nat → Nat) (S : am_S) (d : am_D) (a j : Nat) : Value := if am_rf C ((S a).1 - 3) j = true then va_rf (((S a).2.2 j).map ad) else .int (d a j)
def am_own (C : am_Cfg) (x : am_X) (S : am_S) (d : am_D) (U : State) (H : Heap) (a : Nat) : Prop :=
  match (S a).1 with
  | 0 => ∃ cA, H[am_ad x a]? = some (arrV cA (S a).2.1 (fun j => .int (d a j))) ∧ ArrOfT U cA .int
  | 1 => ∃ cA, H[am_ad x a]? = some (arrV cA (S a).2.1 (fun j => .int (d a j))) ∧ ArrOfT U cA .char
  | 2 => ∃ cA, H[am_ad x a]? = some (arrV cA (S a).2.1 (fun j => va_rf (((S a).2.2 j).map (am_ad x)))) ∧ ArrOfT U cA (.array .int)
  | ci + 3 => ∃ r : vw_C, (am_cl C)[ci]? = some r ∧ (S a).2.1 = r.2.2 ∧ t_OB (am_ad x a) ((am_dg x).1 ci) r.2.2 ((am_dg x).2 ci) H (am_val C (am_ad x) S d a)
def am_cell (C : am_Cfg) (x : am_X) (S : am_S) (d : am_D) (U : State) (H : Heap) (a : Nat) : Prop :=
  (1000 ≤ a → (S a).1 = 0 ∧ va_X (am_ad x a) (S a).2.1 (d a) U H) ∧ (a < 1000 → am_own C x S d U H a)
theorem am_own.kept {C : am_Cfg} {x : am_X} {S : am_S} {d : am_D} {U : State} {H H1 : Heap} {a : Nat} (h : am_own C x S d U H a) (hq : H1[am_ad x a]? = H[am_ad x a]?) : am_own C x S d U H1 a := by
  unfold am_own at h ⊢
  split at h
  · obtain ⟨cA, h1, h2⟩ := h; exact ⟨cA, hq.trans h1, h2⟩
  · obtain ⟨cA, h1, h2⟩ := h; exact ⟨cA, hq.trans h1, h2⟩
  · obtain ⟨cA, h1, h2⟩ := h; exact ⟨cA, hq.trans h1, h2⟩
  · obtain ⟨r, h1, h2, h3⟩ := h; exact ⟨r, h1, h2, h3.kept hq⟩
theorem am_own.moved {C : am_Cfg} {x : am_X} {S : am_S} {d : am_D} {u U : State} {H : Heap} {a : Nat} (hvm : u.vm.Alike U.vm) (h : am_own C x S d u H a) : am_own C x S d U H a := by
  unfold am_own at h ⊢
  split at h
  · obtain ⟨cA, h1, h2⟩ := h; exact ⟨cA, h1, arrOfT_moved hvm h2⟩
  · obtain ⟨cA, h1, h2⟩ := h; exact ⟨cA, h1, arrOfT_moved hvm h2⟩
  · obtain ⟨cA, h1, h2⟩ := h; exact ⟨cA, h1, arrOfT_moved hvm h2⟩
  · exact h
theorem am_own.same {C : am_Cfg} {x : am_X} {S S' : am_S} {d d' : am_D} {U : State} {H : Heap} {a : Nat} (h : am_own C x S d U H a) (hS : S' a = S a) (hd : d' a = d a) : am_own C x S' d' U H a := by
  have e : am_val C (am_ad x) S' d' a = am_val C (am_ad x) S d a := by
    funext j; unfold am_val; rw [hS, hd]
  unfold am_own at h ⊢
  rw [hS, hd, e]
  exact h
theorem am_cell.kept {C : am_Cfg} {x : am_X} {S : am_S} {d : am_D} {U : State} {H H1 : Heap} {a : Nat} (h : am_cell C x S d U H a) (hq : H1[am_ad x a]? = H[am_ad x a]?) : am_cell C x S d U H1 a :=
  ⟨fun h1 => ⟨(h.1 h1).1, (h.1 h1).2.kept hq⟩, fun h1 => (h.2 h1).kept hq⟩
theorem am_cell.moved {C : am_Cfg} {x : am_X} {S : am_S} {d : am_D} {u U : State} {H : Heap} {a : Nat} (hvm : u.vm.Alike U.vm) (h : am_cell C x S d u H a) : am_cell C x S d U H a :=
  ⟨fun h1 => ⟨(h.1 h1).1, (h.1 h1).2.moved hvm⟩, fun h1 => (h.2 h1).moved hvm⟩
theorem am_cell.same {C : am_Cfg} {x : am_X} {S S' : am_S} {d d' : am_D} {U : State} {H : Heap} {a : Nat} (h : am_cell C x S d U H a) (hS : S' a = S a) (hd : d' a = d a) : am_cell C x S' d' U H a :=
  ⟨fun h1 => by rw [hS, hd]; exact h.1 h1, fun h1 => (h.2 h1).same hS hd⟩
/-- what stays of a state: the tables, the statics, where the addresses lie -/
def am_F (C : am_Cfg) (x : am_X) (U : State) : Prop := va_K (am_dg x) (am_cl C) [] U ∧ (∀ w ∈ am_ns C, va_Nw w U) ∧ (∀ z ∈ am_zs C, va_Z z.1 z.2.1 z.2.2.1 (.ref (am_ad x z.2.2.2)) (am_A x) U U.heap) ∧ am_sz x ≤ U.heap.size ∧ (∀ k, k < 1000 → am_ad x k = am_sz x + k) ∧ (∀ k, 1000 ≤ k → am_ad x k < am_sz x)
/-- the cells -/
def am_H (C : am_Cfg) (x : am_X) (S : am_S) (n : Nat) (d : am_D) (U : State) (H : Heap) : Prop := (∀ a, (a < n ∨ (1000 ≤ a ∧ a < 1002)) → am_cell C x S d U H a) ∧ H.size = am_sz x + n ∧ n ≤ 1000
theorem am_H.moved {C : am_Cfg} {x : am_X} {S : am_S} {n : Nat} {d : am_D} {u U : State} {H : Heap} (hvm : u.vm.Alike U.vm) (h : am_H C x S n d u H) : am_H C x S n d U H := ⟨fun a ha => (h.1 a ha).moved hvm, h.2⟩
def am_nest (w : Cond) : Prop := ∀ (s U : State), s.WarmedH U.vm → va_Nw w s → va_Nw w U
theorem am_nestF (a : String) (i : Nat) (b n d h : String) : am_nest (.fieldLinkNest a i b n d h) := fun _ _ hW hZ => va_Nw.warmF hW hZ
theorem am_nestM (a : String) (i : Nat) (x : MethodName) (h : String) : am_nest (.methodLinkNest a i x h) := fun _ _ hW hZ => va_Nw.warmM hW hZ
/-- what is asked of the tables, once -/
def am_ok (C : am_Cfg) : Prop := (∀ w ∈ am_ts C, (w.onTables && w.keeps) = true ∨ ∃ ty, w = .arrayClass ty) ∧ (∀ w ∈ am_ns C, am_nest w ∧ ∀ (u U : State), u.vm = U.vm → va_Nw w u → va_Nw w U)
theorem am_F.warm {C : am_Cfg} {x : am_X} {s U : State} {H : Heap} {locs : List Loc} (hok : am_ok C) (h : am_F C x s) (hU : U.heap = H) (hW : s.WarmedH U.vm) (hS : va_S (am_A x) s.heap H locs) : am_F C x U := by
  obtain ⟨h1, h2, h3, h4, h5, h6⟩ := h
  refine ⟨va_K.moved hW.alike h1, fun w hw => (hok.2 w hw).1 s U hW (h2 w hw), fun z hz => ?_, by rw [hU]; exact Nat.le_trans h4 hS.1, h5, h6⟩
  have := ((h3 z hz).moved hW.alike).kept (H1 := H) (fun q hq hA => hS.2.1 q hq hA)
  rw [hU]; exact this
def am_rm (dep mc ms : Nat) : Room := { frames := dep + 998, cells := mc, slots := ms, locals := 80 * dep }
abbrev am_ws (C : am_Cfg) (mi : am_M) : List Cond := .code mi.1 mi.2.1 mi.2.2.1 mi.2.2.2 :: am_ts C
def am_Qc (C : am_Cfg) (x : am_X) (Q : Option Value → am_S → Nat → am_D → Prop) : Array Value → State → Outcome → State → Prop := fun _ st oc t =>
  ∃ (r : Option Value) (S : am_S) (n : Nat) (d : am_D), oc = .returned (r.map (am_up (am_ad x))) ∧ Q r S n d ∧ am_H C x S n d t t.heap ∧ va_F (am_A x) st t
/-- a contract: method mi at the arguments as, from the cells S, n, d -/
def am_Met (l : Launch) (C : am_Cfg) (x : am_X) (dep mc ms : Nat) (mi : am_M) (as : List Value) (S : am_S) (n : Nat) (d : am_D) (Q : Option Value → am_S → Nat → am_D → Prop) : Prop :=
  Met l mi.1 (am_ws C mi) (am_rm dep mc ms) (va_Pc (as.map (am_up (am_ad x))) (fun U => am_F C x U ∧ am_H C x S n d U U.heap)) (am_Qc C x Q) mc ms (am_A x)
def am_L (ad : Nat → Nat) (nL : Nat) (L : List (Option Value)) (ls : Array Slot) : Prop := ls.size = nL ∧ lv_wf ls ∧ ∀ (i : Nat) (v : Value), L[i]? = some (some v) → ls[i]? = some (.val (am_up ad v)) ∧ v.category = 1
def am_C (C : am_Cfg) (x : am_X) (bc bs : Nat) (mi : am_M) (L : List (Option Value)) (S : am_S) (n : Nat) (d : am_D) (p : Program) (s : State) (m : MethodId) (args : Array Value) (meth : Method) (c : Code) (H : Heap) (locs : List Loc) (cells slots mc ms : Nat) (ls : Array Slot) : Prop :=
  (p.tables.exec = Jvm.exec ∧ c.code = mi.2.1 ∧ c.maxLocals = mi.2.2.1 ∧ meth.sig.returnType = mi.2.2.2 ∧ meth.locks = false ∧ (mi.1.name = "<init>" → meth.name = "<init>") ∧ s.vm.findClass mi.1.cls = some m.cls ∧ (∀ w ∈ am_ts C, w.before args s = true) ∧ am_F C x s) ∧
  (am_H C x S n d s H ∧ va_S (am_A x) s.heap H locs ∧ cells + bc ≤ mc ∧ slots + bs ≤ ms ∧ am_L (am_ad x) mi.2.2.1 L ls)
/-- the walk: the frame of mi at pc, with locals L, stack st and the cells S, n, d, comes to an end with Q; bc cells of bs slots may still be made -/
def am_W (l : Launch) (C : am_Cfg) (x : am_X) (dep bc bs : Nat) (mi : am_M) (pc : Nat) (L : List (Option Value)) (st : List Value) (S : am_S) (n : Nat) (d : am_D) (Q : Option Value → am_S → Nat → am_D → Prop) : Prop :=
  ∀ (p : Program) (e : Env) (s : State) (m : MethodId) (args : Array Value) (below : List Frame) (meth : Method) (c : Code) (H : Heap) (locs : List Loc) (cells slots mc ms : Nat) (ls : Array Slot), am_C C x bc bs mi L S n d p s m args meth c H locs cells slots mc ms ls →
    W p l e (am_rm dep mc ms) s m args below meth c H locs cells slots (MQ below (am_Qc C x Q) args s mc ms (am_A x)) (F0 m pc ls (st.map (am_up (am_ad x))))
theorem am_up_cat (ad : Nat → Nat) (v : Value) : (am_up ad v).category = v.category := by cases v <;> rfl
theorem am_lg (vs : List Value) (h : ∀ v ∈ vs, v.category = 1) : lg_sl vs = vs.map Slot.val := by
  induction vs with
  | nil => rfl
  | cons v vs ih =>
    have h1 := h v List.mem_cons_self
    have h2 := ih (fun w hw => h w (List.mem_cons_of_mem _ hw))
    unfold lg_sl at h2 ⊢
    rw [List.flatMap_cons, h2, if_neg (by omega)]
    rfl
theorem am_args (vs : List Value) : ∀ (k i : Nat) (v : Value), (∀ v ∈ vs, v.category = 1) → vs[i]? = some v → (k + i, v) ∈ lv_args k vs := by
  induction vs with
  | nil => intro k i v _ h; simp at h
  | cons w vs ih =>
    intro k i v hc h
    have h1 := hc w List.mem_cons_self
    unfold lv_args
    rw [if_neg (by omega)]
    cases i with
    | zero => simp at h; subst h; simp
    | succ i =>
      have h2 := ih (k + 1) i v (fun w hw => hc w (List.mem_cons_of_mem _ hw)) (by simpa using h)
      rw [show k + (i + 1) = k + 1 + i by omega]
      exact List.mem_cons_of_mem _ h2
/-- a contract out of the walk from its first instruction -/
theorem am_enter {l : Launch} {C : am_Cfg} {x : am_X} {dep mc ms : Nat} {mi : am_M} {as : List Value} {S : am_S} {n : Nat} {d : am_D} {Q : Option Value → am_S → Nat → am_D → Prop}
    (hy : plainName mi.1.cls = true) (hc : ∀ v ∈ as, v.category = 1) (hn : as.length ≤ mi.2.2.1)
    (k : am_W l C x dep mc ms mi 0 (as.map some ++ List.replicate (mi.2.2.1 - as.length) none) [] S n d Q) : am_Met l C x dep mc ms mi as S n d Q := by
  unfold am_Met
  refine Met.ofW (cc := mi.2.1) (maxL := mi.2.2.1) (ret := mi.2.2.2) hy rfl ?_
  intro p e s m args below meth c s₁ B hml hv
  obtain ⟨rfl, hF, hH⟩ := hv
  have hts := atoms_spec (ws := am_ws C mi) B.pre
  have hc2 : ∀ v ∈ as.map (am_up (am_ad x)), v.category = 1 := by
    intro v hv
    obtain ⟨w, hw, rfl⟩ := List.mem_map.mp hv
    rw [am_up_cat]; exact hc w hw
  have hl := lv_entry (as.map (am_up (am_ad x))) (n := mi.2.2.1) (by rw [am_lg _ hc2]; simpa using hn)
  rw [lg_entry_eq]
  generalize (lg_sl (as.map (am_up (am_ad x))) ++ List.replicate (mi.2.2.1 - (lg_sl (as.map (am_up (am_ad x)))).length) Slot.unset).toArray = ls at hl ⊢
  refine k p e s m _ below meth c s.heap [] 0 0 mc ms ls ⟨⟨B.exec, B.bytes, hml, B.returns, B.notSynchronized, fun h => (name_of_methodNamed B.named B.method).1.trans h, findClass_of_methodNamed B.named, fun w hw => hts w (List.mem_cons_of_mem _ hw), hF⟩, hH, va_S.rf, by omega, by omega, hl.1, hl.2.1, fun i v hi => ?_⟩
  have hi2 : as[i]? = some v := by
    by_cases h : i < as.length
    · rw [List.getElem?_append_left (by simpa using h), List.getElem?_map] at hi
      cases ha : as[i]? with
      | none => rw [ha] at hi; cases hi
      | some w => rw [ha] at hi; simpa using hi
    · rw [List.getElem?_append_right (by simpa using h)] at hi
      have := List.mem_of_getElem? hi
      rw [List.mem_replicate] at this
      exact absurd this.2 (by simp)
  refine ⟨?_, hc v (List.mem_of_getElem? hi2)⟩
  have := am_args (as.map (am_up (am_ad x))) 0 i (am_up (am_ad x) v) hc2 (by rw [List.getElem?_map, hi2]; rfl)
  rw [Nat.zero_add] at this
  exact hl.2.2 _ this
end
section
def am_pr (ad : Nat → Nat) (L : List (Option Value)) : List (Nat × Value) := (List.range L.length).filterMap fun i => (L[i]?.join).map fun v => (i, am_up ad v)
theorem am_pr_mem {ad : Nat → Nat} {L : List (Option Value)} {i : Nat} {v : Value} (h : L[i]? = some (some v)) : (i, am_up ad v) ∈ am_pr ad L := by
  unfold am_pr
  rw [List.mem_filterMap]
  refine ⟨i, List.mem_range.mpr (List.getElem?_eq_some_iff.mp h).1, ?_⟩
  rw [h]; rfl
theorem am_L.has {ad : Nat → Nat} {nL : Nat} {L : List (Option Value)} {ls : Array Slot} (h : am_L ad nL L ls) : lv_has ls nL (am_pr ad L) := by
  refine ⟨h.1, h.2.1, fun q hq => ?_⟩
  unfold am_pr at hq
  obtain ⟨i, -, hi⟩ := List.mem_filterMap.mp hq
  cases hx : L[i]? with
  | none => rw [hx] at hi; simp at hi
  | some o =>
    cases o with
    | none => rw [hx] at hi; simp at hi
    | some v =>
      rw [hx] at hi
      simp at hi
      subst hi
      exact (h.2.2 i v hx).1
theorem am_L.back {ad : Nat → Nat} {nL i : Nat} {v : Value} {L : List (Option Value)} {ls ls' : Array Slot} (h : am_L ad nL L ls) (hc : v.category = 1) (h' : lv_has ls' nL ((i, am_up ad v) :: (am_pr ad L).filter (fun q => !(q.1 == i) && !(q.1 + 1 == i && q.2.category == 2)))) : am_L ad nL (L.set i (some v)) ls' := by
  refine ⟨h'.1, h'.2.1, fun j u hj => ?_⟩
  rw [List.getElem?_set] at hj
  by_cases e : i = j
  · subst e
    rw [if_pos rfl] at hj
    split at hj
    · cases hj
      exact ⟨h'.2.2 _ List.mem_cons_self, hc⟩
    · cases hj
  · rw [if_neg e] at hj
    have h1 := h.2.2 j u hj
    refine ⟨h'.2.2 (j, am_up ad u) (List.mem_cons_of_mem _ (List.mem_filter.mpr ⟨am_pr_mem hj, ?_⟩)), h1.2⟩
    have e2 : ¬ j = i := fun z => e z.symm
    simp [e2, am_up_cat, h1.2]
theorem am_L.at {ad : Nat → Nat} {nL i : Nat} {v : Value} {L : List (Option Value)} {ls : Array Slot} (h : am_L ad nL L ls) (hi : L[i]? = some (some v)) : ls[i]? = some (.val (am_up ad v)) := (h.2.2 i v hi).1
theorem am_C.at {C : am_Cfg} {x : am_X} {bc bs : Nat} {mi : am_M} {L : List (Option Value)} {S : am_S} {n : Nat} {d : am_D} {p : Program} {s : State} {m : MethodId} {args : Array Value} {meth : Method} {c : Code} {H : Heap} {locs : List Loc} {cells slots mc ms : Nat} {ls : Array Slot} (h : am_C C x bc bs mi L S n d p s m args meth c H locs cells slots mc ms ls) : am_L (am_ad x) mi.2.2.1 L ls := h.2.2.2.2.2
theorem am_C.to {C : am_Cfg} {x : am_X} {bc bs : Nat} {mi : am_M} {L L' : List (Option Value)} {S : am_S} {n : Nat} {d : am_D} {p : Program} {s : State} {m : MethodId} {args : Array Value} {meth : Method} {c : Code} {H : Heap} {locs : List Loc} {cells slots mc ms : Nat} {ls ls' : Array Slot} (h : am_C C x bc bs mi L S n d p s m args meth c H locs cells slots mc ms ls) (h' : am_L (am_ad x) mi.2.2.1 L' ls') : am_C C x bc bs mi L' S n d p s m args meth c H locs cells slots mc ms ls' := ⟨h.1, h.2.1, h.2.2.1, h.2.2.2.1, h.2.2.2.2.1, h'⟩
def am_bin (f : Int32 → Int32 → Int32) (n pc : Nat) (L : List (Option Value)) (st : List Value) : Option (Nat × List (Option Value) × List Value) := if n = 1 then (match st with
  | .int y :: .int x :: r => some (pc + 1, L, .int (f x y) :: r)
  | _ => none) else none
def am_un (f : Int32 → Int32) (n pc : Nat) (L : List (Option Value)) (st : List Value) : Option (Nat × List (Option Value) × List Value) := if n = 1 then (match st with
  | .int x :: r => some (pc + 1, L, .int (f x) :: r)
  | _ => none) else none
def am_ild (i k n pc : Nat) (L : List (Option Value)) (st : List Value) : Option (Nat × List (Option Value) × List Value) := if n = k then (match L[i]? with
  | some (some (.int x)) => some (pc + k, L, .int x :: st)
  | _ => none) else none
def am_ald (i k n pc : Nat) (L : List (Option Value)) (st : List Value) : Option (Nat × List (Option Value) × List Value) := if n = k then (match L[i]? with
  | some (some (.ref x)) => some (pc + k, L, .ref x :: st)
  | _ => none) else none
def am_ist (nL i k n pc : Nat) (L : List (Option Value)) (st : List Value) : Option (Nat × List (Option Value) × List Value) := if n = k ∧ i < nL then (match st with
  | .int x :: r => some (pc + k, L.set i (some (.int x)), r)
  | _ => none) else none
def am_ast (nL i k n pc : Nat) (L : List (Option Value)) (st : List Value) : Option (Nat × List (Option Value) × List Value) := if n = k ∧ i < nL then (match st with
  | .ref x :: r => some (pc + k, L.set i (some (.ref x)), r)
  | _ => none) else none
def am_inc (nL i : Nat) (k : Int) (n pc : Nat) (L : List (Option Value)) (st : List Value) : Option (Nat × List (Option Value) × List Value) := if n = 3 ∧ i < nL then (match L[i]? with
  | some (some (.int x)) => some (pc + 3, L.set i (some (.int (x + Int32.ofInt k))), st)
  | _ => none) else none
def am_cst (v : Int32) (k n pc : Nat) (L : List (Option Value)) (st : List Value) : Option (Nat × List (Option Value) × List Value) := if n = k then some (pc + k, L, .int v :: st) else none
def am_is1 (v : Value) : Bool := v.category == 1
def am_dup1 (n pc : Nat) (L : List (Option Value)) (st : List Value) : Option (Nat × List (Option Value) × List Value) := if n = 1 then (match st with
  | a :: r => if am_is1 a = true then some (pc + 1, L, a :: a :: r) else none
  | _ => none) else none
def am_pop1 (n pc : Nat) (L : List (Option Value)) (st : List Value) : Option (Nat × List (Option Value) × List Value) := if n = 1 then (match st with
  | a :: r => if am_is1 a = true then some (pc + 1, L, r) else none
  | _ => none) else none
def am_dupx1 (n pc : Nat) (L : List (Option Value)) (st : List Value) : Option (Nat × List (Option Value) × List Value) := if n = 1 then (match st with
  | a :: b :: r => if am_is1 a = true ∧ am_is1 b = true then some (pc + 1, L, a :: b :: a :: r) else none
  | _ => none) else none
def am_dupx2 (n pc : Nat) (L : List (Option Value)) (st : List Value) : Option (Nat × List (Option Value) × List Value) := if n = 1 then (match st with
  | a :: b :: c :: r => if am_is1 a = true ∧ am_is1 b = true ∧ am_is1 c = true then some (pc + 1, L, a :: b :: c :: a :: r) else none
  | _ => none) else none
def am_dup2 (n pc : Nat) (L : List (Option Value)) (st : List Value) : Option (Nat × List (Option Value) × List Value) := if n = 1 then (match st with
  | a :: b :: r => if am_is1 a = true ∧ am_is1 b = true then some (pc + 1, L, a :: b :: a :: b :: r) else none
  | _ => none) else none
def am_jmp (off : Int) (n pc : Nat) (L : List (Option Value)) (st : List Value) : Option (Nat × List (Option Value) × List Value) := if n = 3 ∧ 0 ≤ (pc : Int) + off then some (((pc : Int) + off).toNat, L, st) else none
def am_pure (nL : Nat) (i : Jvm.ClassFile.Instr) (n pc : Nat) (L : List (Option Value)) (st : List Value) : Option (Nat × List (Option Value) × List Value) := match i with
  | .iconst k => am_cst (Int32.ofInt k) 1 n pc L st
  | .bipush k => am_cst (Int8.ofInt k).toInt32 2 n pc L st
  | .sipush k => am_cst (Int16.ofInt k).toInt32 3 n pc L st
  | .iload i => am_ild i 2 n pc L st
  | .iload_n i => am_ild i.val 1 n pc L st
  | .aload i => am_ald i 2 n pc L st
  | .aload_n i => am_ald i.val 1 n pc L st
  | .istore i => am_ist nL i 2 n pc L st
  | .istore_n i => am_ist nL i.val 1 n pc L st
  | .astore i => am_ast nL i 2 n pc L st
  | .astore_n i => am_ast nL i.val 1 n pc L st
  | .iinc i k => am_inc nL i k n pc L st
  | .iadd => am_bin (fun x y => x + y) n pc L st
  | .isub => am_bin (fun x y => x - y) n pc L st
  | .imul => am_bin (fun x y => x * y) n pc L st
  | .iand => am_bin (fun x y => x &&& y) n pc L st
  | .ior => am_bin (fun x y => x ||| y) n pc L st
  | .ixor => am_bin (fun x y => x ^^^ y) n pc L st
  | .ishl => am_bin (fun x y => x <<< (y &&& 31)) n pc L st
  | .ishr => am_bin (fun x y => x >>> (y &&& 31)) n pc L st
  | .iushr => am_bin (fun x y => (x.toUInt32 >>> (y.toUInt32 &&& Int32.toUInt32 31)).toInt32) n pc L st
  | .ineg => am_un (fun x => -x) n pc L st
  | .i2c => am_un (fun x => (x.toUInt32 % 65536).toInt32) n pc L st
  | .dup => am_dup1 n pc L st
  | .pop => am_pop1 n pc L st
  | .dup_x1 => am_dupx1 n pc L st
  | .dup_x2 => am_dupx2 n pc L st
  | .dup2 => am_dup2 n pc L st
  | .goto off => am_jmp off n pc L st
  | _ => none
theorem am_p_iconst {l : Launch} {C : am_Cfg} {x : am_X} {dep bc bs pc pc' n : Nat} {mi : am_M} {L L' : List (Option Value)} {st st' : List Value} {S : am_S} {nn : Nat} {d : am_D} {Q : Option Value → am_S → Nat → am_D → Prop} {k : Int} (h : am_cst (Int32.ofInt k) 1 n pc L st = some (pc', L', st')) (hd : decode mi.2.1 pc = .ok (.iconst k, n)) (kk : am_W l C x dep bc bs mi pc' L' st' S nn d Q) : am_W l C x dep bc bs mi pc L st S nn d Q := by
  intro p e s m args below meth c H locs cells slots mc ms ls hC
  have hx := hC.1.1
  have hb := hC.1.2.1
  unfold am_cst at h; split at h
  · rename_i hn; subst hn; cases h
    exact lv_iconst hx hb hd rfl (kk p e s m args below meth c H locs cells slots mc ms ls hC)
  · cases h
theorem am_p_bipush {l : Launch} {C : am_Cfg} {x : am_X} {dep bc bs pc pc' n : Nat} {mi : am_M} {L L' : List (Option Value)} {st st' : List Value} {S : am_S} {nn : Nat} {d : am_D} {Q : Option Value → am_S → Nat → am_D → Prop} {k : Int} (h : am_cst (Int8.ofInt k).toInt32 2 n pc L st = some (pc', L', st')) (hd : decode mi.2.1 pc = .ok (.bipush k, n)) (kk : am_W l C x dep bc bs mi pc' L' st' S nn d Q) : am_W l C x dep bc bs mi pc L st S nn d Q := by
  intro p e s m args below meth c H locs cells slots mc ms ls hC
  have hx := hC.1.1
  have hb := hC.1.2.1
  unfold am_cst at h; split at h
  · rename_i hn; subst hn; cases h
    exact lv_bipush hx hb hd rfl (kk p e s m args below meth c H locs cells slots mc ms ls hC)
  · cases h
theorem am_p_sipush {l : Launch} {C : am_Cfg} {x : am_X} {dep bc bs pc pc' n : Nat} {mi : am_M} {L L' : List (Option Value)} {st st' : List Value} {S : am_S} {nn : Nat} {d : am_D} {Q : Option Value → am_S → Nat → am_D → Prop} {k : Int} (h : am_cst (Int16.ofInt k).toInt32 3 n pc L st = some (pc', L', st')) (hd : decode mi.2.1 pc = .ok (.sipush k, n)) (kk : am_W l C x dep bc bs mi pc' L' st' S nn d Q) : am_W l C x dep bc bs mi pc L st S nn d Q := by
  intro p e s m args below meth c H locs cells slots mc ms ls hC
  have hx := hC.1.1
  have hb := hC.1.2.1
  unfold am_cst at h; split at h
  · rename_i hn; subst hn; cases h
    exact lv_sipush hx hb hd rfl (kk p e s m args below meth c H locs cells slots mc ms ls hC)
  · cases h
theorem am_p_iload {l : Launch} {C : am_Cfg} {x : am_X} {dep bc bs pc pc' n : Nat} {mi : am_M} {L L' : List (Option Value)} {st st' : List Value} {S : am_S} {nn : Nat} {d : am_D} {Q : Option Value → am_S → Nat → am_D → Prop} {i : Nat} (h : am_ild i 2 n pc L st = some (pc', L', st')) (hd : decode mi.2.1 pc = .ok (.iload i, n)) (kk : am_W l C x dep bc bs mi pc' L' st' S nn d Q) : am_W l C x dep bc bs mi pc L st S nn d Q := by
  intro p e s m args below meth c H locs cells slots mc ms ls hC
  have hx := hC.1.1
  have hb := hC.1.2.1
  unfold am_ild at h; split at h
  · rename_i hn; subst hn; split at h
    · rename_i y hv; cases h
      exact lv_iload hx hb hd (hC.at.at hv) (kk p e s m args below meth c H locs cells slots mc ms ls hC)
    · cases h
  · cases h
theorem am_p_iload_n {l : Launch} {C : am_Cfg} {x : am_X} {dep bc bs pc pc' n : Nat} {mi : am_M} {L L' : List (Option Value)} {st st' : List Value} {S : am_S} {nn : Nat} {d : am_D} {Q : Option Value → am_S → Nat → am_D → Prop} {i : Fin 4} (h : am_ild i.val 1 n pc L st = some (pc', L', st')) (hd : decode mi.2.1 pc = .ok (.iload_n i, n)) (kk : am_W l C x dep bc bs mi pc' L' st' S nn d Q) : am_W l C x dep bc bs mi pc L st S nn d Q := by
  intro p e s m args below meth c H locs cells slots mc ms ls hC
  have hx := hC.1.1
  have hb := hC.1.2.1
  unfold am_ild at h; split at h
  · rename_i hn; subst hn; split at h
    · rename_i y hv; cases h
      exact lv_iload_n hx hb hd rfl (hC.at.at hv) (kk p e s m args below meth c H locs cells slots mc ms ls hC)
    · cases h
  · cases h
theorem am_p_aload {l : Launch} {C : am_Cfg} {x : am_X} {dep bc bs pc pc' n : Nat} {mi : am_M} {L L' : List (Option Value)} {st st' : List Value} {S : am_S} {nn : Nat} {d : am_D} {Q : Option Value → am_S → Nat → am_D → Prop} {i : Nat} (h : am_ald i 2 n pc L st = some (pc', L', st')) (hd : decode mi.2.1 pc = .ok (.aload i, n)) (kk : am_W l C x dep bc bs mi pc' L' st' S nn d Q) : am_W l C x dep bc bs mi pc L st S nn d Q := by
  intro p e s m args below meth c H locs cells slots mc ms ls hC
  have hx := hC.1.1
  have hb := hC.1.2.1
  unfold am_ald at h; split at h
  · rename_i hn; subst hn; split at h
    · rename_i y hv; cases h
      exact lv_aload hx hb hd (hC.at.at hv) (kk p e s m args below meth c H locs cells slots mc ms ls hC)
    · cases h
  · cases h
theorem am_p_aload_n {l : Launch} {C : am_Cfg} {x : am_X} {dep bc bs pc pc' n : Nat} {mi : am_M} {L L' : List (Option Value)} {st st' : List Value} {S : am_S} {nn : Nat} {d : am_D} {Q : Option Value → am_S → Nat → am_D → Prop} {i : Fin 4} (h : am_ald i.val 1 n pc L st = some (pc', L', st')) (hd : decode mi.2.1 pc = .ok (.aload_n i, n)) (kk : am_W l C x dep bc bs mi pc' L' st' S nn d Q) : am_W l C x dep bc bs mi pc L st S nn d Q := by
  intro p e s m args below meth c H locs cells slots mc ms ls hC
  have hx := hC.1.1
  have hb := hC.1.2.1
  unfold am_ald at h; split at h
  · rename_i hn; subst hn; split at h
    · rename_i y hv; cases h
      exact lv_aload_n hx hb hd rfl (hC.at.at hv) (kk p e s m args below meth c H locs cells slots mc ms ls hC)
    · cases h
  · cases h
theorem am_p_istore {l : Launch} {C : am_Cfg} {x : am_X} {dep bc bs pc pc' n : Nat} {mi : am_M} {L L' : List (Option Value)} {st st' : List Value} {S : am_S} {nn : Nat} {d : am_D} {Q : Option Value → am_S → Nat → am_D → Prop} {i : Nat} (h : am_ist mi.2.2.1 i 2 n pc L st = some (pc', L', st')) (hd : decode mi.2.1 pc = .ok (.istore i, n)) (kk : am_W l C x dep bc bs mi pc' L' st' S nn d Q) : am_W l C x dep bc bs mi pc L st S nn d Q := by
  intro p e s m args below meth c H locs cells slots mc ms ls hC
  have hx := hC.1.1
  have hb := hC.1.2.1
  unfold am_ist at h; split at h
  · rename_i hn; obtain ⟨hn1, hn2⟩ := hn; subst hn1; split at h
    · rename_i y r; cases h
      exact lv_istore hx hb hd hC.at.has hn2 rfl (fun ls' h' => kk p e s m args below meth c H locs cells slots mc ms ls' (hC.to (hC.at.back rfl h')))
    · cases h
  · cases h
theorem am_p_istore_n {l : Launch} {C : am_Cfg} {x : am_X} {dep bc bs pc pc' n : Nat} {mi : am_M} {L L' : List (Option Value)} {st st' : List Value} {S : am_S} {nn : Nat} {d : am_D} {Q : Option Value → am_S → Nat → am_D → Prop} {i : Fin 4} (h : am_ist mi.2.2.1 i.val 1 n pc L st = some (pc', L', st')) (hd : decode mi.2.1 pc = .ok (.istore_n i, n)) (kk : am_W l C x dep bc bs mi pc' L' st' S nn d Q) : am_W l C x dep bc bs mi pc L st S nn d Q := by
  intro p e s m args below meth c H locs cells slots mc ms ls hC
  have hx := hC.1.1
  have hb := hC.1.2.1
  unfold am_ist at h; split at h
  · rename_i hn; obtain ⟨hn1, hn2⟩ := hn; subst hn1; split at h
    · rename_i y r; cases h
      exact lv_istore_n hx hb hd rfl hC.at.has hn2 rfl (fun ls' h' => kk p e s m args below meth c H locs cells slots mc ms ls' (hC.to (hC.at.back rfl h')))
    · cases h
  · cases h
theorem am_p_astore {l : Launch} {C : am_Cfg} {x : am_X} {dep bc bs pc pc' n : Nat} {mi : am_M} {L L' : List (Option Value)} {st st' : List Value} {S : am_S} {nn : Nat} {d : am_D} {Q : Option Value → am_S → Nat → am_D → Prop} {i : Nat} (h : am_ast mi.2.2.1 i 2 n pc L st = some (pc', L', st')) (hd : decode mi.2.1 pc = .ok (.astore i, n)) (kk : am_W l C x dep bc bs mi pc' L' st' S nn d Q) : am_W l C x dep bc bs mi pc L st S nn d Q := by
  intro p e s m args below meth c H locs cells slots mc ms ls hC
  have hx := hC.1.1
  have hb := hC.1.2.1
  unfold am_ast at h; split at h
  · rename_i hn; obtain ⟨hn1, hn2⟩ := hn; subst hn1; split at h
    · rename_i y r; cases h
      exact lv_astore hx hb hd hC.at.has hn2 rfl (fun ls' h' => kk p e s m args below meth c H locs cells slots mc ms ls' (hC.to (hC.at.back rfl h')))
    · cases h
  · cases h
theorem am_p_astore_n {l : Launch} {C : am_Cfg} {x : am_X} {dep bc bs pc pc' n : Nat} {mi : am_M} {L L' : List (Option Value)} {st st' : List Value} {S : am_S} {nn : Nat} {d : am_D} {Q : Option Value → am_S → Nat → am_D → Prop} {i : Fin 4} (h : am_ast mi.2.2.1 i.val 1 n pc L st = some (pc', L', st')) (hd : decode mi.2.1 pc = .ok (.astore_n i, n)) (kk : am_W l C x dep bc bs mi pc' L' st' S nn d Q) : am_W l C x dep bc bs mi pc L st S nn d Q := by
  intro p e s m args below meth c H locs cells slots mc ms ls hC
  have hx := hC.1.1
  have hb := hC.1.2.1
  unfold am_ast at h; split at h
  · rename_i hn; obtain ⟨hn1, hn2⟩ := hn; subst hn1; split at h
    · rename_i y r; cases h
      exact lv_astore_n hx hb hd rfl hC.at.has hn2 rfl (fun ls' h' => kk p e s m args below meth c H locs cells slots mc ms ls' (hC.to (hC.at.back rfl h')))
    · cases h
  · cases h
theorem am_p_iinc {l : Launch} {C : am_Cfg} {x : am_X} {dep bc bs pc pc' n : Nat} {mi : am_M} {L L' : List (Option Value)} {st st' : List Value} {S : am_S} {nn : Nat} {d : am_D} {Q : Option Value → am_S → Nat → am_D → Prop} {i : Nat} {k : Int} (h : am_inc mi.2.2.1 i k n pc L st = some (pc', L', st')) (hd : decode mi.2.1 pc = .ok (.iinc i k, n)) (kk : am_W l C x dep bc bs mi pc' L' st' S nn d Q) : am_W l C x dep bc bs mi pc L st S nn d Q := by
  intro p e s m args below meth c H locs cells slots mc ms ls hC
  have hx := hC.1.1
  have hb := hC.1.2.1
  unfold am_inc at h; split at h
  · rename_i hn; obtain ⟨hn1, hn2⟩ := hn; subst hn1; split at h
    · rename_i y hv; cases h
      obtain ⟨j, hj⟩ := List.getElem?_of_mem (am_pr_mem (ad := am_ad x) hv)
      exact lv_iinc hx hb hd hC.at.has hj rfl hn2 rfl (fun ls' h' => kk p e s m args below meth c H locs cells slots mc ms ls' (hC.to (hC.at.back rfl h')))
    · cases h
  · cases h
theorem am_p_iadd {l : Launch} {C : am_Cfg} {x : am_X} {dep bc bs pc pc' n : Nat} {mi : am_M} {L L' : List (Option Value)} {st st' : List Value} {S : am_S} {nn : Nat} {d : am_D} {Q : Option Value → am_S → Nat → am_D → Prop} (h : am_bin (fun x y => x + y) n pc L st = some (pc', L', st')) (hd : decode mi.2.1 pc = .ok (.iadd, n)) (kk : am_W l C x dep bc bs mi pc' L' st' S nn d Q) : am_W l C x dep bc bs mi pc L st S nn d Q := by
  intro p e s m args below meth c H locs cells slots mc ms ls hC
  have hx := hC.1.1
  have hb := hC.1.2.1
  unfold am_bin at h; split at h
  · rename_i hn; subst hn; split at h
    · cases h
      exact lv_iadd hx hb hd (kk p e s m args below meth c H locs cells slots mc ms ls hC)
    · cases h
  · cases h
theorem am_p_isub {l : Launch} {C : am_Cfg} {x : am_X} {dep bc bs pc pc' n : Nat} {mi : am_M} {L L' : List (Option Value)} {st st' : List Value} {S : am_S} {nn : Nat} {d : am_D} {Q : Option Value → am_S → Nat → am_D → Prop} (h : am_bin (fun x y => x - y) n pc L st = some (pc', L', st')) (hd : decode mi.2.1 pc = .ok (.isub, n)) (kk : am_W l C x dep bc bs mi pc' L' st' S nn d Q) : am_W l C x dep bc bs mi pc L st S nn d Q := by
  intro p e s m args below meth c H locs cells slots mc ms ls hC
  have hx := hC.1.1
  have hb := hC.1.2.1
  unfold am_bin at h; split at h
  · rename_i hn; subst hn; split at h
    · cases h
      exact lv_isub hx hb hd (kk p e s m args below meth c H locs cells slots mc ms ls hC)
    · cases h
  · cases h
theorem am_p_imul {l : Launch} {C : am_Cfg} {x : am_X} {dep bc bs pc pc' n : Nat} {mi : am_M} {L L' : List (Option Value)} {st st' : List Value} {S : am_S} {nn : Nat} {d : am_D} {Q : Option Value → am_S → Nat → am_D → Prop} (h : am_bin (fun x y => x * y) n pc L st = some (pc', L', st')) (hd : decode mi.2.1 pc = .ok (.imul, n)) (kk : am_W l C x dep bc bs mi pc' L' st' S nn d Q) : am_W l C x dep bc bs mi pc L st S nn d Q := by
  intro p e s m args below meth c H locs cells slots mc ms ls hC
  have hx := hC.1.1
  have hb := hC.1.2.1
  unfold am_bin at h; split at h
  · rename_i hn; subst hn; split at h
    · cases h
      exact lv_imul hx hb hd (kk p e s m args below meth c H locs cells slots mc ms ls hC)
    · cases h
  · cases h
theorem am_p_iand {l : Launch} {C : am_Cfg} {x : am_X} {dep bc bs pc pc' n : Nat} {mi : am_M} {L L' : List (Option Value)} {st st' : List Value} {S : am_S} {nn : Nat} {d : am_D} {Q : Option Value → am_S → Nat → am_D → Prop} (h : am_bin (fun x y => x &&& y) n pc L st = some (pc', L', st')) (hd : decode mi.2.1 pc = .ok (.iand, n)) (kk : am_W l C x dep bc bs mi pc' L' st' S nn d Q) : am_W l C x dep bc bs mi pc L st S nn d Q := by
  intro p e s m args below meth c H locs cells slots mc ms ls hC
  have hx := hC.1.1
  have hb := hC.1.2.1
  unfold am_bin at h; split at h
  · rename_i hn; subst hn; split at h
    · cases h
      exact lv_iand hx hb hd (kk p e s m args below meth c H locs cells slots mc ms ls hC)
    · cases h
  · cases h
theorem am_p_ior {l : Launch} {C : am_Cfg} {x : am_X} {dep bc bs pc pc' n : Nat} {mi : am_M} {L L' : List (Option Value)} {st st' : List Value} {S : am_S} {nn : Nat} {d : am_D} {Q : Option Value → am_S → Nat → am_D → Prop} (h : am_bin (fun x y => x ||| y) n pc L st = some (pc', L', st')) (hd : decode mi.2.1 pc = .ok (.ior, n)) (kk : am_W l C x dep bc bs mi pc' L' st' S nn d Q) : am_W l C x dep bc bs mi pc L st S nn d Q := by
  intro p e s m args below meth c H locs cells slots mc ms ls hC
  have hx := hC.1.1
  have hb := hC.1.2.1
  unfold am_bin at h; split at h
  · rename_i hn; subst hn; split at h
    · cases h
      exact lv_ior hx hb hd (kk p e s m args below meth c H locs cells slots mc ms ls hC)
    · cases h
  · cases h
theorem am_p_ixor {l : Launch} {C : am_Cfg} {x : am_X} {dep bc bs pc pc' n : Nat} {mi : am_M} {L L' : List (Option Value)} {st st' : List Value} {S : am_S} {nn : Nat} {d : am_D} {Q : Option Value → am_S → Nat → am_D → Prop} (h : am_bin (fun x y => x ^^^ y) n pc L st = some (pc', L', st')) (hd : decode mi.2.1 pc = .ok (.ixor, n)) (kk : am_W l C x dep bc bs mi pc' L' st' S nn d Q) : am_W l C x dep bc bs mi pc L st S nn d Q := by
  intro p e s m args below meth c H locs cells slots mc ms ls hC
  have hx := hC.1.1
  have hb := hC.1.2.1
  unfold am_bin at h; split at h
  · rename_i hn; subst hn; split at h
    · cases h
      exact lv_ixor hx hb hd (kk p e s m args below meth c H locs cells slots mc ms ls hC)
    · cases h
  · cases h
theorem am_p_ishl {l : Launch} {C : am_Cfg} {x : am_X} {dep bc bs pc pc' n : Nat} {mi : am_M} {L L' : List (Option Value)} {st st' : List Value} {S : am_S} {nn : Nat} {d : am_D} {Q : Option Value → am_S → Nat → am_D → Prop} (h : am_bin (fun x y => x <<< (y &&& 31)) n pc L st = some (pc', L', st')) (hd : decode mi.2.1 pc = .ok (.ishl, n)) (kk : am_W l C x dep bc bs mi pc' L' st' S nn d Q) : am_W l C x dep bc bs mi pc L st S nn d Q := by
  intro p e s m args below meth c H locs cells slots mc ms ls hC
  have hx := hC.1.1
  have hb := hC.1.2.1
  unfold am_bin at h; split at h
  · rename_i hn; subst hn; split at h
    · cases h
      exact lv_ishl hx hb hd (kk p e s m args below meth c H locs cells slots mc ms ls hC)
    · cases h
  · cases h
theorem am_p_ishr {l : Launch} {C : am_Cfg} {x : am_X} {dep bc bs pc pc' n : Nat} {mi : am_M} {L L' : List (Option Value)} {st st' : List Value} {S : am_S} {nn : Nat} {d : am_D} {Q : Option Value → am_S → Nat → am_D → Prop} (h : am_bin (fun x y => x >>> (y &&& 31)) n pc L st = some (pc', L', st')) (hd : decode mi.2.1 pc = .ok (.ishr, n)) (kk : am_W l C x dep bc bs mi pc' L' st' S nn d Q) : am_W l C x dep bc bs mi pc L st S nn d Q := by
  intro p e s m args below meth c H locs cells slots mc ms ls hC
  have hx := hC.1.1
  have hb := hC.1.2.1
  unfold am_bin at h; split at h
  · rename_i hn; subst hn; split at h
    · cases h
      exact lv_ishr hx hb hd (kk p e s m args below meth c H locs cells slots mc ms ls hC)
    · cases h
  · cases h
theorem am_p_iushr {l : Launch} {C : am_Cfg} {x : am_X} {dep bc bs pc pc' n : Nat} {mi : am_M} {L L' : List (Option Value)} {st st' : List Value} {S : am_S} {nn : Nat} {d : am_D} {Q : Option Value → am_S → Nat → am_D → Prop} (h : am_bin (fun x y => (x.toUInt32 >>> (y.toUInt32 &&& Int32.toUInt32 31)).toInt32) n pc L st = some (pc', L', st')) (hd : decode mi.2.1 pc = .ok (.iushr, n)) (kk : am_W l C x dep bc bs mi pc' L' st' S nn d Q) : am_W l C x dep bc bs mi pc L st S nn d Q := by
  intro p e s m args below meth c H locs cells slots mc ms ls hC
  have hx := hC.1.1
  have hb := hC.1.2.1
  unfold am_bin at h; split at h
  · rename_i hn; subst hn; split at h
    · cases h
      exact lv_iushr hx hb hd rfl (kk p e s m args below meth c H locs cells slots mc ms ls hC)
    · cases h
  · cases h
theorem am_p_ineg {l : Launch} {C : am_Cfg} {x : am_X} {dep bc bs pc pc' n : Nat} {mi : am_M} {L L' : List (Option Value)} {st st' : List Value} {S : am_S} {nn : Nat} {d : am_D} {Q : Option Value → am_S → Nat → am_D → Prop} (h : am_un (fun x => -x) n pc L st = some (pc', L', st')) (hd : decode mi.2.1 pc = .ok (.ineg, n)) (kk : am_W l C x dep bc bs mi pc' L' st' S nn d Q) : am_W l C x dep bc bs mi pc L st S nn d Q := by
  intro p e s m args below meth c H locs cells slots mc ms ls hC
  have hx := hC.1.1
  have hb := hC.1.2.1
  unfold am_un at h; split at h
  · rename_i hn; subst hn; split at h
    · cases h
      exact lv_ineg hx hb hd (kk p e s m args below meth c H locs cells slots mc ms ls hC)
    · cases h
  · cases h
theorem am_p_i2c {l : Launch} {C : am_Cfg} {x : am_X} {dep bc bs pc pc' n : Nat} {mi : am_M} {L L' : List (Option Value)} {st st' : List Value} {S : am_S} {nn : Nat} {d : am_D} {Q : Option Value → am_S → Nat → am_D → Prop} (h : am_un (fun x => (x.toUInt32 % 65536).toInt32) n pc L st = some (pc', L', st')) (hd : decode mi.2.1 pc = .ok (.i2c, n)) (kk : am_W l C x dep bc bs mi pc' L' st' S nn d Q) : am_W l C x dep bc bs mi pc L st S nn d Q := by
  intro p e s m args below meth c H locs cells slots mc ms ls hC
  have hx := hC.1.1
  have hb := hC.1.2.1
  unfold am_un at h; split at h
  · rename_i hn; subst hn; split at h
    · cases h
      exact lv_i2c hx hb hd rfl (kk p e s m args below meth c H locs cells slots mc ms ls hC)
    · cases h
  · cases h
theorem am_p_dup {l : Launch} {C : am_Cfg} {x : am_X} {dep bc bs pc pc' n : Nat} {mi : am_M} {L L' : List (Option Value)} {st st' : List Value} {S : am_S} {nn : Nat} {d : am_D} {Q : Option Value → am_S → Nat → am_D → Prop} (h : am_dup1 n pc L st = some (pc', L', st')) (hd : decode mi.2.1 pc = .ok (.dup, n)) (kk : am_W l C x dep bc bs mi pc' L' st' S nn d Q) : am_W l C x dep bc bs mi pc L st S nn d Q := by
  intro p e s m args below meth c H locs cells slots mc ms ls hC
  have hx := hC.1.1
  have hb := hC.1.2.1
  unfold am_dup1 at h; split at h
  · rename_i hn; subst hn; split at h
    · split at h
      · rename_i hc; cases h
        exact lv_dup hx hb hd (by rw [am_up_cat]; exact eq_of_beq hc) (kk p e s m args below meth c H locs cells slots mc ms ls hC)
      · cases h
    · cases h
  · cases h
theorem am_p_pop {l : Launch} {C : am_Cfg} {x : am_X} {dep bc bs pc pc' n : Nat} {mi : am_M} {L L' : List (Option Value)} {st st' : List Value} {S : am_S} {nn : Nat} {d : am_D} {Q : Option Value → am_S → Nat → am_D → Prop} (h : am_pop1 n pc L st = some (pc', L', st')) (hd : decode mi.2.1 pc = .ok (.pop, n)) (kk : am_W l C x dep bc bs mi pc' L' st' S nn d Q) : am_W l C x dep bc bs mi pc L st S nn d Q := by
  intro p e s m args below meth c H locs cells slots mc ms ls hC
  have hx := hC.1.1
  have hb := hC.1.2.1
  unfold am_pop1 at h; split at h
  · rename_i hn; subst hn; split at h
    · split at h
      · rename_i hc; cases h
        exact lv_pop hx hb hd (by rw [am_up_cat]; exact eq_of_beq hc) (kk p e s m args below meth c H locs cells slots mc ms ls hC)
      · cases h
    · cases h
  · cases h
theorem am_p_dup_x1 {l : Launch} {C : am_Cfg} {x : am_X} {dep bc bs pc pc' n : Nat} {mi : am_M} {L L' : List (Option Value)} {st st' : List Value} {S : am_S} {nn : Nat} {d : am_D} {Q : Option Value → am_S → Nat → am_D → Prop} (h : am_dupx1 n pc L st = some (pc', L', st')) (hd : decode mi.2.1 pc = .ok (.dup_x1, n)) (kk : am_W l C x dep bc bs mi pc' L' st' S nn d Q) : am_W l C x dep bc bs mi pc L st S nn d Q := by
  intro p e s m args below meth c H locs cells slots mc ms ls hC
  have hx := hC.1.1
  have hb := hC.1.2.1
  unfold am_dupx1 at h; split at h
  · rename_i hn; subst hn; split at h
    · split at h
      · rename_i hc; cases h
        exact lv_dup_x1 hx hb hd (by rw [am_up_cat]; exact eq_of_beq hc.1) (by rw [am_up_cat]; exact eq_of_beq hc.2) (kk p e s m args below meth c H locs cells slots mc ms ls hC)
      · cases h
    · cases h
  · cases h
theorem am_p_dup_x2 {l : Launch} {C : am_Cfg} {x : am_X} {dep bc bs pc pc' n : Nat} {mi : am_M} {L L' : List (Option Value)} {st st' : List Value} {S : am_S} {nn : Nat} {d : am_D} {Q : Option Value → am_S → Nat → am_D → Prop} (h : am_dupx2 n pc L st = some (pc', L', st')) (hd : decode mi.2.1 pc = .ok (.dup_x2, n)) (kk : am_W l C x dep bc bs mi pc' L' st' S nn d Q) : am_W l C x dep bc bs mi pc L st S nn d Q := by
  intro p e s m args below meth c H locs cells slots mc ms ls hC
  have hx := hC.1.1
  have hb := hC.1.2.1
  unfold am_dupx2 at h; split at h
  · rename_i hn; subst hn; split at h
    · split at h
      · rename_i hc; cases h
        exact lv_dup_x2 hx hb hd (by rw [am_up_cat]; exact eq_of_beq hc.1) (by rw [am_up_cat]; exact eq_of_beq hc.2.1) (by rw [am_up_cat]; exact eq_of_beq hc.2.2) (kk p e s m args below meth c H locs cells slots mc ms ls hC)
      · cases h
    · cases h
  · cases h
theorem am_p_dup2 {l : Launch} {C : am_Cfg} {x : am_X} {dep bc bs pc pc' n : Nat} {mi : am_M} {L L' : List (Option Value)} {st st' : List Value} {S : am_S} {nn : Nat} {d : am_D} {Q : Option Value → am_S → Nat → am_D → Prop} (h : am_dup2 n pc L st = some (pc', L', st')) (hd : decode mi.2.1 pc = .ok (.dup2, n)) (kk : am_W l C x dep bc bs mi pc' L' st' S nn d Q) : am_W l C x dep bc bs mi pc L st S nn d Q := by
  intro p e s m args below meth c H locs cells slots mc ms ls hC
  have hx := hC.1.1
  have hb := hC.1.2.1
  unfold am_dup2 at h; split at h
  · rename_i hn; subst hn; split at h
    · split at h
      · rename_i hc; cases h
        exact lv_dup2_11 hx hb hd (by rw [am_up_cat]; exact eq_of_beq hc.1) (by rw [am_up_cat]; exact eq_of_beq hc.2) (kk p e s m args below meth c H locs cells slots mc ms ls hC)
      · cases h
    · cases h
  · cases h
theorem am_p_goto {l : Launch} {C : am_Cfg} {x : am_X} {dep bc bs pc pc' n : Nat} {mi : am_M} {L L' : List (Option Value)} {st st' : List Value} {S : am_S} {nn : Nat} {d : am_D} {Q : Option Value → am_S → Nat → am_D → Prop} {off : Int} (h : am_jmp off n pc L st = some (pc', L', st')) (hd : decode mi.2.1 pc = .ok (.goto off, n)) (kk : am_W l C x dep bc bs mi pc' L' st' S nn d Q) : am_W l C x dep bc bs mi pc L st S nn d Q := by
  intro p e s m args below meth c H locs cells slots mc ms ls hC
  have hx := hC.1.1
  have hb := hC.1.2.1
  unfold am_jmp at h; split at h
  · rename_i hn; obtain ⟨hn1, hn2⟩ := hn; subst hn1; cases h
    exact lv_goto hx hb hd (Int.toNat_of_nonneg hn2).symm (kk p e s m args below meth c H locs cells slots mc ms ls hC)
  · cases h
theorem am_pure_ok {l : Launch} {C : am_Cfg} {x : am_X} {dep bc bs pc pc' n : Nat} {mi : am_M} {L L' : List (Option Value)} {st st' : List Value} {S : am_S} {nn : Nat} {d : am_D} {Q : Option Value → am_S → Nat → am_D → Prop} {i : Jvm.ClassFile.Instr} (h : am_pure mi.2.2.1 i n pc L st = some (pc', L', st')) (hd : decode mi.2.1 pc = .ok (i, n)) (kk : am_W l C x dep bc bs mi pc' L' st' S nn d Q) : am_W l C x dep bc bs mi pc L st S nn d Q := by
  unfold am_pure at h
  split at h
  · exact am_p_iconst h hd kk
  · exact am_p_bipush h hd kk
  · exact am_p_sipush h hd kk
  · exact am_p_iload h hd kk
  · exact am_p_iload_n h hd kk
  · exact am_p_aload h hd kk
  · exact am_p_aload_n h hd kk
  · exact am_p_istore h hd kk
  · exact am_p_istore_n h hd kk
  · exact am_p_astore h hd kk
  · exact am_p_astore_n h hd kk
  · exact am_p_iinc h hd kk
  · exact am_p_iadd h hd kk
  · exact am_p_isub h hd kk
  · exact am_p_imul h hd kk
  · exact am_p_iand h hd kk
  · exact am_p_ior h hd kk
  · exact am_p_ixor h hd kk
  · exact am_p_ishl h hd kk
  · exact am_p_ishr h hd kk
  · exact am_p_iushr h hd kk
  · exact am_p_ineg h hd kk
  · exact am_p_i2c h hd kk
  · exact am_p_dup h hd kk
  · exact am_p_pop h hd kk
  · exact am_p_dup_x1 h hd kk
  · exact am_p_dup_x2 h hd kk
  · exact am_p_dup2 h hd kk
  · exact am_p_goto h hd kk
  · cases h
def am_seg (nL : Nat) : List (Nat × Jvm.ClassFile.Instr × Nat) → Nat → List (Option Value) → List Value → Option (Nat × List (Option Value) × List Value)
  | [], pc, L, st => some (pc, L, st)
  | q :: qs, pc, L, st => if q.1 = pc then (match am_pure nL q.2.1 q.2.2 pc L st with
    | some r => am_seg nL qs r.1 r.2.1 r.2.2
    | none => none) else none
theorem am_seg_ok {l : Launch} {C : am_Cfg} {x : am_X} {dep bc bs pc' : Nat} {mi : am_M} {L' : List (Option Value)} {st' : List Value} {S : am_S} {nn : Nat} {d : am_D} {Q : Option Value → am_S → Nat → am_D → Prop} : ∀ (qs : List (Nat × Jvm.ClassFile.Instr × Nat)) (pc : Nat) (L : List (Option Value)) (st : List Value), (∀ q ∈ qs, decode mi.2.1 q.1 = .ok (q.2.1, q.2.2)) → am_seg mi.2.2.1 qs pc L st = some (pc', L', st') → am_W l C x dep bc bs mi pc' L' st' S nn d Q → am_W l C x dep bc bs mi pc L st S nn d Q
  | [], pc, L, st, _, h, kk => by
    unfold am_seg at h
    cases h
    exact kk
  | q :: qs, pc, L, st, hq, h, kk => by
    unfold am_seg at h
    split at h
    · rename_i e
      split at h
      · rename_i r hr
        refine am_pure_ok hr (by rw [← e]; exact hq q List.mem_cons_self) ?_
        exact am_seg_ok qs r.1 r.2.1 r.2.2 (fun w hw => hq w (List.mem_cons_of_mem _ hw)) h kk
      · cases h
    · cases h
/-- k instructions from the i-th of the method's list on -/
theorem am_go {l : Launch} {C : am_Cfg} {x : am_X} {dep bc bs pc : Nat} {mi : am_M} {L : List (Option Value)} {st : List Value} {S : am_S} {nn : Nat} {d : am_D} {Q : Option Value → am_S → Nat → am_D → Prop} {pc' : Nat} {L' : List (Option Value)} {st' : List Value} (cd : List (Nat × Jvm.ClassFile.Instr × Nat)) (hcd : ∀ q ∈ cd, decode mi.2.1 q.1 = .ok (q.2.1, q.2.2)) (i k : Nat) (h : am_seg mi.2.2.1 ((cd.drop i).take k) pc L st = some (pc', L', st')) (kk : am_W l C x dep bc bs mi pc' L' st' S nn d Q) : am_W l C x dep bc bs mi pc L st S nn d Q :=
  am_seg_ok _ pc L st (fun q hq => hcd q (List.mem_of_mem_drop (List.mem_of_mem_take hq))) h kk
end
section
theorem am_if_eq {l : Launch} {C : am_Cfg} {x : am_X} {dep bc bs pc : Nat} {mi : am_M} {L : List (Option Value)} {st : List Value} {S : am_S} {nn : Nat} {d : am_D} {Q : Option Value → am_S → Nat → am_D → Prop} {u : Int32} {off : Int} (tgt : Nat) (hd : decode mi.2.1 pc = .ok (.ifCond .eq off, 3)) (ht : (pc : Int) + off = (tgt : Int)) (kt : u = 0 → am_W l C x dep bc bs mi tgt L st S nn d Q) (kf : ¬ u = 0 → am_W l C x dep bc bs mi (pc + 3) L st S nn d Q) : am_W l C x dep bc bs mi pc L (.int u :: st) S nn d Q := by
  intro p e s m args below meth c H locs cells slots mc ms ls hC
  have hx := hC.1.1
  have hb := hC.1.2.1
  exact lv_if_eq hx hb hd ht (fun h => kt h p e s m args below meth c H locs cells slots mc ms ls hC) (fun h => kf h p e s m args below meth c H locs cells slots mc ms ls hC)
theorem am_icmp_eq {l : Launch} {C : am_Cfg} {x : am_X} {dep bc bs pc : Nat} {mi : am_M} {L : List (Option Value)} {st : List Value} {S : am_S} {nn : Nat} {d : am_D} {Q : Option Value → am_S → Nat → am_D → Prop} {u v : Int32} {off : Int} (tgt : Nat) (hd : decode mi.2.1 pc = .ok (.if_icmp .eq off, 3)) (ht : (pc : Int) + off = (tgt : Int)) (kt : u = v → am_W l C x dep bc bs mi tgt L st S nn d Q) (kf : ¬ u = v → am_W l C x dep bc bs mi (pc + 3) L st S nn d Q) : am_W l C x dep bc bs mi pc L (.int v :: .int u :: st) S nn d Q := by
  intro p e s m args below meth c H locs cells slots mc ms ls hC
  have hx := hC.1.1
  have hb := hC.1.2.1
  exact lv_icmp_eq hx hb hd ht (fun h => kt h p e s m args below meth c H locs cells slots mc ms ls hC) (fun h => kf h p e s m args below meth c H locs cells slots mc ms ls hC)
theorem am_if_ne {l : Launch} {C : am_Cfg} {x : am_X} {dep bc bs pc : Nat} {mi : am_M} {L : List (Option Value)} {st : List Value} {S : am_S} {nn : Nat} {d : am_D} {Q : Option Value → am_S → Nat → am_D → Prop} {u : Int32} {off : Int} (tgt : Nat) (hd : decode mi.2.1 pc = .ok (.ifCond .ne off, 3)) (ht : (pc : Int) + off = (tgt : Int)) (kt : ¬ u = 0 → am_W l C x dep bc bs mi tgt L st S nn d Q) (kf : u = 0 → am_W l C x dep bc bs mi (pc + 3) L st S nn d Q) : am_W l C x dep bc bs mi pc L (.int u :: st) S nn d Q := by
  intro p e s m args below meth c H locs cells slots mc ms ls hC
  have hx := hC.1.1
  have hb := hC.1.2.1
  exact lv_if_ne hx hb hd ht (fun h => kt h p e s m args below meth c H locs cells slots mc ms ls hC) (fun h => kf h p e s m args below meth c H locs cells slots mc ms ls hC)
theorem am_icmp_ne {l : Launch} {C : am_Cfg} {x : am_X} {dep bc bs pc : Nat} {mi : am_M} {L : List (Option Value)} {st : List Value} {S : am_S} {nn : Nat} {d : am_D} {Q : Option Value → am_S → Nat → am_D → Prop} {u v : Int32} {off : Int} (tgt : Nat) (hd : decode mi.2.1 pc = .ok (.if_icmp .ne off, 3)) (ht : (pc : Int) + off = (tgt : Int)) (kt : ¬ u = v → am_W l C x dep bc bs mi tgt L st S nn d Q) (kf : u = v → am_W l C x dep bc bs mi (pc + 3) L st S nn d Q) : am_W l C x dep bc bs mi pc L (.int v :: .int u :: st) S nn d Q := by
  intro p e s m args below meth c H locs cells slots mc ms ls hC
  have hx := hC.1.1
  have hb := hC.1.2.1
  exact lv_icmp_ne hx hb hd ht (fun h => kt h p e s m args below meth c H locs cells slots mc ms ls hC) (fun h => kf h p e s m args below meth c H locs cells slots mc ms ls hC)
theorem am_if_lt {l : Launch} {C : am_Cfg} {x : am_X} {dep bc bs pc : Nat} {mi : am_M} {L : List (Option Value)} {st : List Value} {S : am_S} {nn : Nat} {d : am_D} {Q : Option Value → am_S → Nat → am_D → Prop} {u : Int32} {off : Int} (tgt : Nat) (hd : decode mi.2.1 pc = .ok (.ifCond .lt off, 3)) (ht : (pc : Int) + off = (tgt : Int)) (kt : u < 0 → am_W l C x dep bc bs mi tgt L st S nn d Q) (kf : ¬ u < 0 → am_W l C x dep bc bs mi (pc + 3) L st S nn d Q) : am_W l C x dep bc bs mi pc L (.int u :: st) S nn d Q := by
  intro p e s m args below meth c H locs cells slots mc ms ls hC
  have hx := hC.1.1
  have hb := hC.1.2.1
  exact lv_if_lt hx hb hd ht (fun h => kt h p e s m args below meth c H locs cells slots mc ms ls hC) (fun h => kf h p e s m args below meth c H locs cells slots mc ms ls hC)
theorem am_icmp_lt {l : Launch} {C : am_Cfg} {x : am_X} {dep bc bs pc : Nat} {mi : am_M} {L : List (Option Value)} {st : List Value} {S : am_S} {nn : Nat} {d : am_D} {Q : Option Value → am_S → Nat → am_D → Prop} {u v : Int32} {off : Int} (tgt : Nat) (hd : decode mi.2.1 pc = .ok (.if_icmp .lt off, 3)) (ht : (pc : Int) + off = (tgt : Int)) (kt : u < v → am_W l C x dep bc bs mi tgt L st S nn d Q) (kf : ¬ u < v → am_W l C x dep bc bs mi (pc + 3) L st S nn d Q) : am_W l C x dep bc bs mi pc L (.int v :: .int u :: st) S nn d Q := by
  intro p e s m args below meth c H locs cells slots mc ms ls hC
  have hx := hC.1.1
  have hb := hC.1.2.1
  exact lv_icmp_lt hx hb hd ht (fun h => kt h p e s m args below meth c H locs cells slots mc ms ls hC) (fun h => kf h p e s m args below meth c H locs cells slots mc ms ls hC)
theorem am_if_ge {l : Launch} {C : am_Cfg} {x : am_X} {dep bc bs pc : Nat} {mi : am_M} {L : List (Option Value)} {st : List Value} {S : am_S} {nn : Nat} {d : am_D} {Q : Option Value → am_S → Nat → am_D → Prop} {u : Int32} {off : Int} (tgt : Nat) (hd : decode mi.2.1 pc = .ok (.ifCond .ge off, 3)) (ht : (pc : Int) + off = (tgt : Int)) (kt : 0 ≤ u → am_W l C x dep bc bs mi tgt L st S nn d Q) (kf : ¬ 0 ≤ u → am_W l C x dep bc bs mi (pc + 3) L st S nn d Q) : am_W l C x dep bc bs mi pc L (.int u :: st) S nn d Q := by
  intro p e s m args below meth c H locs cells slots mc ms ls hC
  have hx := hC.1.1
  have hb := hC.1.2.1
  exact lv_if_ge hx hb hd ht (fun h => kt h p e s m args below meth c H locs cells slots mc ms ls hC) (fun h => kf h p e s m args below meth c H locs cells slots mc ms ls hC)
theorem am_icmp_ge {l : Launch} {C : am_Cfg} {x : am_X} {dep bc bs pc : Nat} {mi : am_M} {L : List (Option Value)} {st : List Value} {S : am_S} {nn : Nat} {d : am_D} {Q : Option Value → am_S → Nat → am_D → Prop} {u v : Int32} {off : Int} (tgt : Nat) (hd : decode mi.2.1 pc = .ok (.if_icmp .ge off, 3)) (ht : (pc : Int) + off = (tgt : Int)) (kt : v ≤ u → am_W l C x dep bc bs mi tgt L st S nn d Q) (kf : ¬ v ≤ u → am_W l C x dep bc bs mi (pc + 3) L st S nn d Q) : am_W l C x dep bc bs mi pc L (.int v :: .int u :: st) S nn d Q := by
  intro p e s m args below meth c H locs cells slots mc ms ls hC
  have hx := hC.1.1
  have hb := hC.1.2.1
  exact lv_icmp_ge hx hb hd ht (fun h => kt h p e s m args below meth c H locs cells slots mc ms ls hC) (fun h => kf h p e s m args below meth c H locs cells slots mc ms ls hC)
theorem am_if_gt {l : Launch} {C : am_Cfg} {x : am_X} {dep bc bs pc : Nat} {mi : am_M} {L : List (Option Value)} {st : List Value} {S : am_S} {nn : Nat} {d : am_D} {Q : Option Value → am_S → Nat → am_D → Prop} {u : Int32} {off : Int} (tgt : Nat) (hd : decode mi.2.1 pc = .ok (.ifCond .gt off, 3)) (ht : (pc : Int) + off = (tgt : Int)) (kt : 0 < u → am_W l C x dep bc bs mi tgt L st S nn d Q) (kf : ¬ 0 < u → am_W l C x dep bc bs mi (pc + 3) L st S nn d Q) : am_W l C x dep bc bs mi pc L (.int u :: st) S nn d Q := by
  intro p e s m args below meth c H locs cells slots mc ms ls hC
  have hx := hC.1.1
  have hb := hC.1.2.1
  exact lv_if_gt hx hb hd ht (fun h => kt h p e s m args below meth c H locs cells slots mc ms ls hC) (fun h => kf h p e s m args below meth c H locs cells slots mc ms ls hC)
theorem am_icmp_gt {l : Launch} {C : am_Cfg} {x : am_X} {dep bc bs pc : Nat} {mi : am_M} {L : List (Option Value)} {st : List Value} {S : am_S} {nn : Nat} {d : am_D} {Q : Option Value → am_S → Nat → am_D → Prop} {u v : Int32} {off : Int} (tgt : Nat) (hd : decode mi.2.1 pc = .ok (.if_icmp .gt off, 3)) (ht : (pc : Int) + off = (tgt : Int)) (kt : v < u → am_W l C x dep bc bs mi tgt L st S nn d Q) (kf : ¬ v < u → am_W l C x dep bc bs mi (pc + 3) L st S nn d Q) : am_W l C x dep bc bs mi pc L (.int v :: .int u :: st) S nn d Q := by
  intro p e s m args below meth c H locs cells slots mc ms ls hC
  have hx := hC.1.1
  have hb := hC.1.2.1
  exact lv_icmp_gt hx hb hd ht (fun h => kt h p e s m args below meth c H locs cells slots mc ms ls hC) (fun h => kf h p e s m args below meth c H locs cells slots mc ms ls hC)
theorem am_if_le {l : Launch} {C : am_Cfg} {x : am_X} {dep bc bs pc : Nat} {mi : am_M} {L : List (Option Value)} {st : List Value} {S : am_S} {nn : Nat} {d : am_D} {Q : Option Value → am_S → Nat → am_D → Prop} {u : Int32} {off : Int} (tgt : Nat) (hd : decode mi.2.1 pc = .ok (.ifCond .le off, 3)) (ht : (pc : Int) + off = (tgt : Int)) (kt : u ≤ 0 → am_W l C x dep bc bs mi tgt L st S nn d Q) (kf : ¬ u ≤ 0 → am_W l C x dep bc bs mi (pc + 3) L st S nn d Q) : am_W l C x dep bc bs mi pc L (.int u :: st) S nn d Q := by
  intro p e s m args below meth c H locs cells slots mc ms ls hC
  have hx := hC.1.1
  have hb := hC.1.2.1
  exact lv_if_le hx hb hd ht (fun h => kt h p e s m args below meth c H locs cells slots mc ms ls hC) (fun h => kf h p e s m args below meth c H locs cells slots mc ms ls hC)
theorem am_icmp_le {l : Launch} {C : am_Cfg} {x : am_X} {dep bc bs pc : Nat} {mi : am_M} {L : List (Option Value)} {st : List Value} {S : am_S} {nn : Nat} {d : am_D} {Q : Option Value → am_S → Nat → am_D → Prop} {u v : Int32} {off : Int} (tgt : Nat) (hd : decode mi.2.1 pc = .ok (.if_icmp .le off, 3)) (ht : (pc : Int) + off = (tgt : Int)) (kt : u ≤ v → am_W l C x dep bc bs mi tgt L st S nn d Q) (kf : ¬ u ≤ v → am_W l C x dep bc bs mi (pc + 3) L st S nn d Q) : am_W l C x dep bc bs mi pc L (.int v :: .int u :: st) S nn d Q := by
  intro p e s m args below meth c H locs cells slots mc ms ls hC
  have hx := hC.1.1
  have hb := hC.1.2.1
  exact lv_icmp_le hx hb hd ht (fun h => kt h p e s m args below meth c H locs cells slots mc ms ls hC) (fun h => kf h p e s m args below meth c H locs cells slots mc ms ls hC)
theorem am_idiv {l : Launch} {C : am_Cfg} {x : am_X} {dep bc bs pc : Nat} {mi : am_M} {L : List (Option Value)} {st : List Value} {S : am_S} {nn : Nat} {d : am_D} {Q : Option Value → am_S → Nat → am_D → Prop} {u v : Int32} (hd : decode mi.2.1 pc = .ok (.idiv, 1)) (h0 : ¬ v = 0) (kk : am_W l C x dep bc bs mi (pc + 1) L (.int (u / v) :: st) S nn d Q) : am_W l C x dep bc bs mi pc L (.int v :: .int u :: st) S nn d Q := by
  intro p e s m args below meth c H locs cells slots mc ms ls hC
  have hx := hC.1.1
  have hb := hC.1.2.1
  exact lv_idiv hx hb hd h0 (kk p e s m args below meth c H locs cells slots mc ms ls hC)
theorem am_irem {l : Launch} {C : am_Cfg} {x : am_X} {dep bc bs pc : Nat} {mi : am_M} {L : List (Option Value)} {st : List Value} {S : am_S} {nn : Nat} {d : am_D} {Q : Option Value → am_S → Nat → am_D → Prop} {u v : Int32} (hd : decode mi.2.1 pc = .ok (.irem, 1)) (h0 : ¬ v = 0) (kk : am_W l C x dep bc bs mi (pc + 1) L (.int (u - u / v * v) :: st) S nn d Q) : am_W l C x dep bc bs mi pc L (.int v :: .int u :: st) S nn d Q := by
  intro p e s m args below meth c H locs cells slots mc ms ls hC
  have hx := hC.1.1
  have hb := hC.1.2.1
  exact lv_irem hx hb hd h0 (kk p e s m args below meth c H locs cells slots mc ms ls hC)
theorem am_ldc {l : Launch} {C : am_Cfg} {x : am_X} {dep bc bs pc : Nat} {mi : am_M} {L : List (Option Value)} {st : List Value} {S : am_S} {nn : Nat} {d : am_D} {Q : Option Value → am_S → Nat → am_D → Prop} {idx : Nat} (v : Int32) (hd : decode mi.2.1 pc = .ok (.ldc idx, 2)) (hw : Cond.constant mi.1.cls idx v ∈ am_ts C) (kk : am_W l C x dep bc bs mi (pc + 2) L (.int v :: st) S nn d Q) : am_W l C x dep bc bs mi pc L st S nn d Q := by
  intro p e s m args below meth c H locs cells slots mc ms ls hC
  have hx := hC.1.1
  have hb := hC.1.2.1
  exact lv_ldc hx hb hC.1.2.2.2.2.2.2.1 (hC.1.2.2.2.2.2.2.2.1 _ hw) hd (kk p e s m args below meth c H locs cells slots mc ms ls hC)
theorem am_tableIn {l : Launch} {C : am_Cfg} {x : am_X} {dep bc bs pc : Nat} {mi : am_M} {L : List (Option Value)} {st : List Value} {S : am_S} {nn : Nat} {d : am_D} {Q : Option Value → am_S → Nat → am_D → Prop} {dflt lo hi off : Int} {offs : Array Int} {len : Nat} {u : Int32} (tgt : Nat) (hd : decode mi.2.1 pc = .ok (.tableswitch dflt lo hi offs, len)) (h1 : ¬ u.toInt < lo) (h2 : ¬ hi < u.toInt) (ho : offs[(u.toInt - lo).toNat]? = some off) (ht : (pc : Int) + off = (tgt : Int)) (kk : am_W l C x dep bc bs mi tgt L st S nn d Q) : am_W l C x dep bc bs mi pc L (.int u :: st) S nn d Q := by
  intro p e s m args below meth c H locs cells slots mc ms ls hC
  have hx := hC.1.1
  have hb := hC.1.2.1
  exact lv_tableIn hx hb hd h1 h2 ho ht (kk p e s m args below meth c H locs cells slots mc ms ls hC)
theorem am_tableOut {l : Launch} {C : am_Cfg} {x : am_X} {dep bc bs pc : Nat} {mi : am_M} {L : List (Option Value)} {st : List Value} {S : am_S} {nn : Nat} {d : am_D} {Q : Option Value → am_S → Nat → am_D → Prop} {dflt lo hi : Int} {offs : Array Int} {len : Nat} {u : Int32} (tgt : Nat) (hd : decode mi.2.1 pc = .ok (.tableswitch dflt lo hi offs, len)) (h : u.toInt < lo ∨ hi < u.toInt) (ht : (pc : Int) + dflt = (tgt : Int)) (kk : am_W l C x dep bc bs mi tgt L st S nn d Q) : am_W l C x dep bc bs mi pc L (.int u :: st) S nn d Q := by
  intro p e s m args below meth c H locs cells slots mc ms ls hC
  have hx := hC.1.1
  have hb := hC.1.2.1
  exact lv_tableOut hx hb hd h ht (kk p e s m args below meth c H locs cells slots mc ms ls hC)
theorem am_own_0 {C : am_Cfg} {x : am_X} {S : am_S} {d : am_D} {U : State} {H : Heap} {a : Nat} (hk : (S a).1 = 0) : am_own C x S d U H a ↔ ∃ cA, H[am_ad x a]? = some (arrV cA (S a).2.1 (fun j => .int (d a j))) ∧ ArrOfT U cA .int := by
  unfold am_own; rw [hk]
theorem am_own_1 {C : am_Cfg} {x : am_X} {S : am_S} {d : am_D} {U : State} {H : Heap} {a : Nat} (hk : (S a).1 = 1) : am_own C x S d U H a ↔ ∃ cA, H[am_ad x a]? = some (arrV cA (S a).2.1 (fun j => .int (d a j))) ∧ ArrOfT U cA .char := by
  unfold am_own; rw [hk]
theorem am_own_2 {C : am_Cfg} {x : am_X} {S : am_S} {d : am_D} {U : State} {H : Heap} {a : Nat} (hk : (S a).1 = 2) : am_own C x S d U H a ↔ ∃ cA, H[am_ad x a]? = some (arrV cA (S a).2.1 (fun j => va_rf (((S a).2.2 j).map (am_ad x)))) ∧ ArrOfT U cA (.array .int) := by
  unfold am_own; rw [hk]
theorem am_own_3 {C : am_Cfg} {x : am_X} {S : am_S} {d : am_D} {U : State} {H : Heap} {a : Nat} {ci : Nat} (hk : (S a).1 = ci + 3) : am_own C x S d U H a ↔ ∃ r : vw_C, (am_cl C)[ci]? = some r ∧ (S a).2.1 = r.2.2 ∧ t_OB (am_ad x a) ((am_dg x).1 ci) r.2.2 ((am_dg x).2 ci) H (am_val C (am_ad x) S d a) := by
  unfold am_own; rw [hk]
theorem am_inj {x : am_X} {a b : Nat} (h1 : ∀ k, k < 1000 → am_ad x k = am_sz x + k) (h2 : ∀ k, 1000 ≤ k → am_ad x k < am_sz x) (ha : a < 1000) (hab : b ≠ a) : am_ad x b ≠ am_ad x a := by
  by_cases hb : b < 1000
  · rw [h1 a ha, h1 b hb]; omega
  · have := h2 b (by omega)
    rw [h1 a ha]; omega
theorem am_H.put {C : am_Cfg} {x : am_X} {S S' : am_S} {n : Nat} {d d' : am_D} {U : State} {H H' : Heap} {a : Nat} (hF : am_F C x U) (h : am_H C x S n d U H) (ha : a < n) (e2 : H'.size = H.size) (e3 : ∀ q, q ≠ am_ad x a → H'[q]? = H[q]?) (hS : ∀ b, b ≠ a → S' b = S b) (hd : ∀ b, b ≠ a → d' b = d b) (hc : am_own C x S' d' U H' a) : am_H C x S' n d' U H' := by
  obtain ⟨h1, h2, h3⟩ := h
  refine ⟨fun b hb => ?_, e2.trans h2, h3⟩
  by_cases e : b = a
  · subst e
    exact ⟨fun z => by omega, fun _ => hc⟩
  · exact ((h1 b hb).kept (e3 _ (am_inj hF.2.2.2.2.1 hF.2.2.2.2.2 (by omega) e))).same (hS b e) (hd b e)
def am_u (d : am_D) (a j : Nat) (v : Int32) : am_D := fun b k => if b = a ∧ k = j then v else d b k
theorem am_u_ne {d : am_D} {a j : Nat} {v : Int32} (b : Nat) (h : b ≠ a) : am_u d a j v b = d b := by
  funext k; unfold am_u; rw [if_neg (fun z => h z.1)]
theorem am_u_self {d : am_D} {a j : Nat} {v : Int32} : am_u d a j v a = upd (d a) j v := by
  funext k; unfold am_u upd; by_cases h : k = j <;> simp [h]
theorem am_u_V (d : am_D) (a j : Nat) (v : Int32) : updV (fun k => Value.int (d a k)) j (.int v) = fun k => Value.int (am_u d a j v a k) := by
  funext k; unfold updV am_u; by_cases h : k = j <;> simp [h]

theorem am_iaload {l : Launch} {C : am_Cfg} {x : am_X} {dep bc bs pc : Nat} {mi : am_M} {L : List (Option Value)} {st : List Value} {S : am_S} {nn : Nat} {d : am_D} {Q : Option Value → am_S → Nat → am_D → Prop} {a : Nat} {i : Int32} (j : Nat) (hd : decode mi.2.1 pc = .ok (.iaload, 1)) (hk : (S a).1 = 0) (ha : a < nn ∨ (1000 ≤ a ∧ a < 1002)) (hi : i = nI j) (hj : j < (S a).2.1) (hm : (S a).2.1 < 2147483648) (kk : am_W l C x dep bc bs mi (pc + 1) L (.int (d a j) :: st) S nn d Q) : am_W l C x dep bc bs mi pc L (.int i :: .ref a :: st) S nn d Q := by
  intro p e s m args below meth c H locs cells slots mc ms ls hC
  have hx := hC.1.1
  have hb := hC.1.2.1
  subst hi
  have hin := vp_in_nI hj (by omega : (S a).2.1 < 2 ^ 31)
  have hcl : (nI j).toNatClampNeg = j := nI_clamp (by omega)
  have hcell := hC.2.1.1 a ha
  by_cases hb1 : 1000 ≤ a
  · obtain ⟨-, scr, h1, h2, h3, h4, h5⟩ := hcell.1 hb1
    exact W.iald (v := .int (d a j)) hx hb h1 h2 h3 (by rw [h4]; exact hin) (by rw [hcl]; exact h5 j hj) rfl rfl hd (kk p e s m args below meth c H locs cells slots mc ms ls hC)
  · obtain ⟨cA, h1, h2⟩ := (am_own_0 hk).mp (hcell.2 (by omega))
    exact W.iald (v := .int (d a j)) hx hb h1 (h2 _ _) (fun q => by cases q) (by rw [arrV_size]; exact hin) (by rw [hcl, arrV_read _ _ hj]) rfl rfl hd (kk p e s m args below meth c H locs cells slots mc ms ls hC)
theorem am_caload {l : Launch} {C : am_Cfg} {x : am_X} {dep bc bs pc : Nat} {mi : am_M} {L : List (Option Value)} {st : List Value} {S : am_S} {nn : Nat} {d : am_D} {Q : Option Value → am_S → Nat → am_D → Prop} {a : Nat} {i : Int32} (j : Nat) (hd : decode mi.2.1 pc = .ok (.caload, 1)) (hk : (S a).1 = 1) (ha : a < nn) (hi : i = nI j) (hj : j < (S a).2.1) (hm : (S a).2.1 < 2147483648) (kk : am_W l C x dep bc bs mi (pc + 1) L (.int (d a j) :: st) S nn d Q) : am_W l C x dep bc bs mi pc L (.int i :: .ref a :: st) S nn d Q := by
  intro p e s m args below meth c H locs cells slots mc ms ls hC
  have hx := hC.1.1
  have hb := hC.1.2.1
  subst hi
  have hin := vp_in_nI hj (by omega : (S a).2.1 < 2 ^ 31)
  have hcl : (nI j).toNatClampNeg = j := nI_clamp (by omega)
  have hn := hC.2.1.2.2
  obtain ⟨cA, h1, h2⟩ := (am_own_1 hk).mp ((hC.2.1.1 a (Or.inl ha)).2 (by omega))
  exact W.cald (v := .int (d a j)) hx hb h1 (h2 _ _) (fun q => by cases q) (by rw [arrV_size]; exact hin) (by rw [hcl, arrV_read _ _ hj]) rfl rfl hd (kk p e s m args below meth c H locs cells slots mc ms ls hC)
theorem am_aaload {l : Launch} {C : am_Cfg} {x : am_X} {dep bc bs pc : Nat} {mi : am_M} {L : List (Option Value)} {st : List Value} {S : am_S} {nn : Nat} {d : am_D} {Q : Option Value → am_S → Nat → am_D → Prop} {a : Nat} {i : Int32} (j r : Nat) (hd : decode mi.2.1 pc = .ok (.aaload, 1)) (hk : (S a).1 = 2) (ha : a < nn) (hi : i = nI j) (hj : j < (S a).2.1) (hm : (S a).2.1 < 2147483648) (hr : (S a).2.2 j = some r) (kk : am_W l C x dep bc bs mi (pc + 1) L (.ref r :: st) S nn d Q) : am_W l C x dep bc bs mi pc L (.int i :: .ref a :: st) S nn d Q := by
  intro p e s m args below meth c H locs cells slots mc ms ls hC
  have hx := hC.1.1
  have hb := hC.1.2.1
  subst hi
  have hin := vp_in_nI hj (by omega : (S a).2.1 < 2 ^ 31)
  have hcl : (nI j).toNatClampNeg = j := nI_clamp (by omega)
  have hn := hC.2.1.2.2
  obtain ⟨cA, h1, h2⟩ := (am_own_2 hk).mp ((hC.2.1.1 a (Or.inl ha)).2 (by omega))
  exact W.aald (v := .ref (am_ad x r)) hx hb h1 (h2 _ _) rfl (fun q => by cases q) (by rw [arrV_size]; exact hin) (by rw [hcl, arrV_read _ _ hj, hr]; rfl) rfl rfl hd (kk p e s m args below meth c H locs cells slots mc ms ls hC)
theorem am_alen {l : Launch} {C : am_Cfg} {x : am_X} {dep bc bs pc : Nat} {mi : am_M} {L : List (Option Value)} {st : List Value} {S : am_S} {nn : Nat} {d : am_D} {Q : Option Value → am_S → Nat → am_D → Prop} {a : Nat} {v : Int32} (hd : decode mi.2.1 pc = .ok (.arraylength, 1)) (hk : (S a).1 = 0) (ha : a < nn ∨ (1000 ≤ a ∧ a < 1002)) (hv : v = nI (S a).2.1) (kk : am_W l C x dep bc bs mi (pc + 1) L (.int v :: st) S nn d Q) : am_W l C x dep bc bs mi pc L (.ref a :: st) S nn d Q := by
  intro p e s m args below meth c H locs cells slots mc ms ls hC
  have hx := hC.1.1
  have hb := hC.1.2.1
  subst hv
  have hcell := hC.2.1.1 a ha
  by_cases hb1 : 1000 ≤ a
  · obtain ⟨-, scr, h1, h2, h3, h4, h5⟩ := hcell.1 hb1
    exact W.alen hx hb h1 h2 (by rw [h4]; rfl) rfl rfl hd (kk p e s m args below meth c H locs cells slots mc ms ls hC)
  · obtain ⟨cA, h1, h2⟩ := (am_own_0 hk).mp (hcell.2 (by omega))
    exact W.alen hx hb h1 (h2 _ _) (by rw [arrV_size]; rfl) rfl rfl hd (kk p e s m args below meth c H locs cells slots mc ms ls hC)
theorem am_iastore {l : Launch} {C : am_Cfg} {x : am_X} {dep bc bs pc : Nat} {mi : am_M} {L : List (Option Value)} {st : List Value} {S : am_S} {nn : Nat} {d : am_D} {Q : Option Value → am_S → Nat → am_D → Prop} {a : Nat} {i v : Int32} (j : Nat) (hd : decode mi.2.1 pc = .ok (.iastore, 1)) (hk : (S a).1 = 0) (ha : a < nn) (hi : i = nI j) (hj : j < (S a).2.1) (hm : (S a).2.1 < 2147483648) (kk : am_W l C x dep bc bs mi (pc + 1) L st S nn (am_u d a j v) Q) : am_W l C x dep bc bs mi pc L (.int v :: .int i :: .ref a :: st) S nn d Q := by
  intro p e s m args below meth c H locs cells slots mc ms ls hC
  have hx := hC.1.1
  have hb := hC.1.2.1
  subst hi
  have hin := vp_in_nI hj (by omega : (S a).2.1 < 2 ^ 31)
  have hcl : (nI j).toNatClampNeg = j := nI_clamp (by omega)
  obtain ⟨hC1, hH, hS, hbc, hbs, hL⟩ := hC
  have hF := hC1.2.2.2.2.2.2.2.2
  have hn := hH.2.2
  obtain ⟨cA, h1, h2⟩ := (am_own_0 hk).mp ((hH.1 a (Or.inl ha)).2 (by omega))
  refine W.iast hx hb h1 (h2 _ _) (fun q => by cases q) (by rw [arrV_size]; exact hin) rfl rfl hd fun H' e1 e2 e3 => ?_
  rw [hcl] at e1 ⊢
  refine kk p e s m args below meth c H' _ cells slots mc ms ls ⟨hC1, am_H.put hF hH ha e2 e3 (fun _ _ => rfl) am_u_ne ((am_own_0 hk).mpr ⟨cA, ?_, h2⟩), hS.put e2 e3 ?_, hbc, hbs, hL⟩
  · rw [e1, arrV_store]
    have e4 := am_u_V d a j v
    first
      | rw [e4]
      | (have e5 : narrow .char (.int v) = .int v := rfl
         rw [e5, e4])
  · show am_sz x ≤ am_ad x a
    rw [hF.2.2.2.2.1 a (by omega)]; omega
theorem am_castore {l : Launch} {C : am_Cfg} {x : am_X} {dep bc bs pc : Nat} {mi : am_M} {L : List (Option Value)} {st : List Value} {S : am_S} {nn : Nat} {d : am_D} {Q : Option Value → am_S → Nat → am_D → Prop} {a : Nat} {i v : Int32} (j : Nat) (hd : decode mi.2.1 pc = .ok (.castore, 1)) (hk : (S a).1 = 1) (ha : a < nn) (hi : i = nI j) (hj : j < (S a).2.1) (hm : (S a).2.1 < 2147483648) (kk : am_W l C x dep bc bs mi (pc + 1) L st S nn (am_u d a j (vp_nar .char v)) Q) : am_W l C x dep bc bs mi pc L (.int v :: .int i :: .ref a :: st) S nn d Q := by
  intro p e s m args below meth c H locs cells slots mc ms ls hC
  have hx := hC.1.1
  have hb := hC.1.2.1
  subst hi
  have hin := vp_in_nI hj (by omega : (S a).2.1 < 2 ^ 31)
  have hcl : (nI j).toNatClampNeg = j := nI_clamp (by omega)
  obtain ⟨hC1, hH, hS, hbc, hbs, hL⟩ := hC
  have hF := hC1.2.2.2.2.2.2.2.2
  have hn := hH.2.2
  obtain ⟨cA, h1, h2⟩ := (am_own_1 hk).mp ((hH.1 a (Or.inl ha)).2 (by omega))
  refine W.cast hx hb h1 (h2 _ _) (fun q => by cases q) (by rw [arrV_size]; exact hin) rfl rfl hd fun H' e1 e2 e3 => ?_
  rw [hcl] at e1 ⊢
  refine kk p e s m args below meth c H' _ cells slots mc ms ls ⟨hC1, am_H.put hF hH ha e2 e3 (fun _ _ => rfl) am_u_ne ((am_own_1 hk).mpr ⟨cA, ?_, h2⟩), hS.put e2 e3 ?_, hbc, hbs, hL⟩
  · rw [e1, arrV_store]
    have e4 := am_u_V d a j (vp_nar .char v)
    first
      | rw [e4]
      | (have e5 : narrow .char (.int v) = .int (vp_nar .char v) := rfl
         rw [e5, e4])
  · show am_sz x ≤ am_ad x a
    rw [hF.2.2.2.2.1 a (by omega)]; omega
def am_va (C : am_Cfg) (S : am_S) (d : am_D) (a j : Nat) : Value := if am_rf C ((S a).1 - 3) j = true then va_rf ((S a).2.2 j) else .int (d a j)
theorem am_va_up (C : am_Cfg) (ad : Nat → Nat) (S : am_S) (d : am_D) (a j : Nat) : am_val C ad S d a j = am_up ad (am_va C S d a j) := by
  unfold am_val am_va
  split
  · cases (S a).2.2 j <;> rfl
  · rfl
def am_fl (C : am_Cfg) (own : String) (idx : Nat) (t : String × String × String × Bool) : Prop := Cond.fieldLink own idx t.1 t.2.1 t.2.2.1 ∈ am_ts C ∨ ∃ host, Cond.fieldLinkNest own idx t.1 t.2.1 t.2.2.1 host ∈ am_ns C
/-- a class's words, types and names -/
def am_clok (C : am_Cfg) (r : vw_C) (ty0 : Nat → FieldType) : Prop := (∀ w ∈ u_ws r.1 r.2.1 r.2.2, w ∈ am_ts C) ∧ (∀ k, k < r.2.2 → parseFieldDescriptor (r.2.1 k).2.2.1 = some (ty0 k)) ∧ (∀ a, a < r.2.2 → ∀ b, b < r.2.2 → a ≠ b → (r.2.1 a).2.1 ≠ (r.2.1 b).2.1)

theorem am_getf {l : Launch} {C : am_Cfg} {x : am_X} {dep bc bs pc : Nat} {mi : am_M} {L : List (Option Value)} {st : List Value} {S : am_S} {nn : Nat} {d : am_D} {Q : Option Value → am_S → Nat → am_D → Prop} {a idx : Nat} {v : Value} {ty0 : Nat → FieldType} (ci k : Nat) (r : vw_C) (hd : decode mi.2.1 pc = .ok (.getfield idx, 3)) (hk : (S a).1 = ci + 3) (ha : a < nn) (hr : (am_cl C)[ci]? = some r) (hkN : k < r.2.2) (hok : am_clok C r ty0) (hl : am_fl C mi.1.cls idx (r.2.1 k)) (hv : am_va C S d a k = v) (kk : am_W l C x dep bc bs mi (pc + 3) L (v :: st) S nn d Q) : am_W l C x dep bc bs mi pc L (.ref a :: st) S nn d Q := by
  intro p e s m args below meth c H locs cells slots mc ms ls hC
  have hx := hC.1.1
  have hb := hC.1.2.1
  have hts := hC.1.2.2.2.2.2.2.2.1
  have hown := hC.1.2.2.2.2.2.2.1
  have hF := hC.1.2.2.2.2.2.2.2.2
  have hn := hC.2.1.2.2
  obtain ⟨r', h1, hN, cell, q1, q2, q3, q4⟩ := (am_own_3 hk).mp ((hC.2.1.1 a (Or.inl ha)).2 (by omega))
  cases hr.symm.trans h1
  obtain ⟨hSl, hfc, kC, hkC, hkind⟩ := hF.1.1 ci _ hr
  obtain ⟨cf, kf, fi, f, hi, hsl⟩ := hSl k hkN
  have hst := (u_facts hfc hkC (u_lays hts hok.1 hkN) hi).1
  have hval : cell.slots[f.slot]? = some (am_up (am_ad x) v) := by rw [hsl, q4 k hkN, am_va_up, hv]
  have hkn : cell.vm ≠ .unknown := by rw [q3]; exact fun h => by cases h
  rcases hl with hl | ⟨host, hl⟩
  · exact W.getf hx hb hown (hts _ hl) hi hst q1 hkn hval rfl rfl hd (kk p e s m args below meth c H locs cells slots mc ms ls hC)
  · exact va_Wgetf hx hb hown (va_Nw.use rfl (hF.2.1 _ hl)) hi hst q1 hkn hval rfl rfl hd (kk p e s m args below meth c H locs cells slots mc ms ls hC)
theorem am_putI {l : Launch} {C : am_Cfg} {x : am_X} {dep bc bs pc : Nat} {mi : am_M} {L : List (Option Value)} {st : List Value} {S : am_S} {nn : Nat} {d : am_D} {Q : Option Value → am_S → Nat → am_D → Prop} {a idx : Nat} {v : Int32} {ty0 : Nat → FieldType} (ci k : Nat) (r : vw_C) (hd : decode mi.2.1 pc = .ok (.putfield idx, 3)) (hk : (S a).1 = ci + 3) (ha : a < nn) (hr : (am_cl C)[ci]? = some r) (hkN : k < r.2.2) (hok : am_clok C r ty0) (hl : Cond.fieldLink mi.1.cls idx (r.2.1 k).1 (r.2.1 k).2.1 (r.2.1 k).2.2.1 ∈ am_ts C) (hfin : (r.2.1 k).2.2.2 = false) (hrf : am_rf C ci k = false) (hnar : narrow (ty0 k) (.int v) = .int v) (hfit : fits (ty0 k) (.int v) = true) (kk : am_W l C x dep bc bs mi (pc + 3) L st S nn (am_u d a k v) Q) : am_W l C x dep bc bs mi pc L (.int v :: .ref a :: st) S nn d Q := by
  intro p e s m args below meth c H locs cells slots mc ms ls hC
  have hx := hC.1.1
  have hb := hC.1.2.1
  obtain ⟨hC1, hH, hS, hbc, hbs, hL⟩ := hC
  have hts := hC1.2.2.2.2.2.2.2.1
  have hown := hC1.2.2.2.2.2.2.1
  have hF := hC1.2.2.2.2.2.2.2.2
  have hn := hH.2.2
  have hap := va_apart (own := mi.1.cls) hts hok.1 ty0 hok.2.1 hok.2.2 hF.1 hr
  obtain ⟨r', h1, hN, cell, q1, q2, q3, q4⟩ := (am_own_3 hk).mp ((hH.1 a (Or.inl ha)).2 (by omega))
  cases hr.symm.trans h1
  obtain ⟨hSl, hfc, kC, hkC, hkind⟩ := hF.1.1 ci _ hr
  obtain ⟨cf, kf, fi, f, hi, hsl⟩ := hSl k hkN
  have hlay := hts _ (hok.1 _ (u_in_lay hkN))
  unfold u_lay at hlay
  rw [if_neg (by rw [hfin]; decide)] at hlay
  have hst := (u_facts hfc hkC (u_lays hts hok.1 hkN) hi).1
  have h6 := u_store hfc hkC hkind hlay hi (hok.2.1 k hkN) hnar hfit
  refine W.putK hx hb (f := f) ⟨hown, hts _ hl, ⟨_, _, _, hi⟩, hst⟩ (by rw [q2]; exact h6) q1 q3 (by rw [hsl]; exact k2_hasslot (q4 k hkN)) rfl rfl hd fun H' e1 e2 e3 => ?_
  rw [hsl] at e1 ⊢
  refine kk p e s m args below meth c H' _ cells slots mc ms ls ⟨hC1, am_H.put hF hH ha e2 e3 (fun _ _ => rfl) am_u_ne ((am_own_3 hk).mpr ⟨r, hr, hN, t_OB.to (V := updV (am_val C (am_ad x) S d a) k (.int v)) ⟨_, e1, q2, q3, t_set q4 hap hkN (.int v)⟩ (fun j _ => ?_)⟩), hS.put e2 e3 ?_, hbc, hbs, hL⟩
  · unfold updV am_val am_u
    rw [hk]
    by_cases hjk : j = k
    · subst hjk; simp [hrf]
    · simp [hjk]
  · show am_sz x ≤ am_ad x a
    rw [hF.2.2.2.2.1 a (by omega)]; omega
def am_r (S : am_S) (a j r : Nat) : am_S := fun b => if b = a then ((S a).1, (S a).2.1, fun k => if k = j then some r else (S a).2.2 k) else S b
theorem am_r_ne {S : am_S} {a j r : Nat} (b : Nat) (h : b ≠ a) : am_r S a j r b = S b := by unfold am_r; rw [if_neg h]
theorem am_r_self {S : am_S} {a j r : Nat} : am_r S a j r a = ((S a).1, (S a).2.1, fun k => if k = j then some r else (S a).2.2 k) := by unfold am_r; rw [if_pos rfl]
theorem am_putR {l : Launch} {C : am_Cfg} {x : am_X} {dep bc bs pc : Nat} {mi : am_M} {L : List (Option Value)} {st : List Value} {S : am_S} {nn : Nat} {d : am_D} {Q : Option Value → am_S → Nat → am_D → Prop} {a idx b : Nat} {ty0 : Nat → FieldType} (ci k : Nat) (r : vw_C) (hd : decode mi.2.1 pc = .ok (.putfield idx, 3)) (hk : (S a).1 = ci + 3) (ha : a < nn) (hr : (am_cl C)[ci]? = some r) (hkN : k < r.2.2) (hok : am_clok C r ty0) (hl : Cond.fieldLink mi.1.cls idx (r.2.1 k).1 (r.2.1 k).2.1 (r.2.1 k).2.2.1 ∈ am_ts C) (hfin : (r.2.1 k).2.2.2 = true) (hin : mi.1.name = "<init>") (hdecl : (r.2.1 k).1 = mi.1.cls) (hrf : am_rf C ci k = true) (hnar : narrow (ty0 k) (.ref (am_ad x b)) = .ref (am_ad x b)) (hfit : fits (ty0 k) (.ref (am_ad x b)) = true) (kk : am_W l C x dep bc bs mi (pc + 3) L st (am_r S a k b) nn d Q) : am_W l C x dep bc bs mi pc L (.ref b :: .ref a :: st) S nn d Q := by
  intro p e s m args below meth c H locs cells slots mc ms ls hC
  have hx := hC.1.1
  have hb := hC.1.2.1
  obtain ⟨hC1, hH, hS, hbc, hbs, hL⟩ := hC
  have hts := hC1.2.2.2.2.2.2.2.1
  have hown := hC1.2.2.2.2.2.2.1
  have hnm := hC1.2.2.2.2.2.1
  have hF := hC1.2.2.2.2.2.2.2.2
  have hn := hH.2.2
  have hap := va_apart (own := mi.1.cls) hts hok.1 ty0 hok.2.1 hok.2.2 hF.1 hr
  obtain ⟨r', h1, hN, cell, q1, q2, q3, q4⟩ := (am_own_3 hk).mp ((hH.1 a (Or.inl ha)).2 (by omega))
  cases hr.symm.trans h1
  obtain ⟨hSl, hfc, kC, hkC, hkind⟩ := hF.1.1 ci _ hr
  obtain ⟨cf, kf, fi, f, hi, hsl⟩ := hSl k hkN
  have hlay := hts _ (hok.1 _ (u_in_lay hkN))
  unfold u_lay at hlay
  rw [if_pos hfin] at hlay
  have hst := (u_facts hfc hkC (u_lays hts hok.1 hkN) hi).1
  have hcf : m.cls = cf := by
    obtain ⟨_, _, c', _, _, _, -, -, hf', -, -, -, hown2, -⟩ := Cond.laysFinal_spec hlay
    have e1 : c' = cf := by have := hi.symm.trans hf'; simp at this; exact this.1.symm
    rw [hdecl] at hown2
    rw [← e1]; exact Option.some.inj (hown.symm.trans hown2)
  have h6 := u_fits hfc hkC hkind (Or.inr hlay) hi (hok.2.1 k hkN) hnar hfit
  refine W.putFinK hx hb hown (hts _ hl) hi hst hcf (hnm hin) (by rw [q2]; exact h6) q1 q3 (by rw [hsl]; exact k2_hasslot (q4 k hkN)) rfl rfl hd fun H' e1 e2 e3 => ?_
  rw [hsl] at e1 ⊢
  have hk' : (am_r S a k b a).1 = ci + 3 := by rw [am_r_self]; exact hk
  refine kk p e s m args below meth c H' _ cells slots mc ms ls ⟨hC1, am_H.put hF hH ha e2 e3 am_r_ne (fun _ _ => rfl) ((am_own_3 hk').mpr ⟨r, hr, by rw [am_r_self]; exact hN, t_OB.to (V := updV (am_val C (am_ad x) S d a) k (.ref (am_ad x b))) ⟨_, e1, q2, q3, t_set q4 hap hkN (.ref (am_ad x b))⟩ (fun j _ => ?_)⟩), hS.put e2 e3 ?_, hbc, hbs, hL⟩
  · unfold updV am_val
    rw [am_r_self, hk]
    by_cases hjk : j = k
    · subst hjk; simp [hrf, va_rf]
    · simp [hjk]
  · show am_sz x ≤ am_ad x a
    rw [hF.2.2.2.2.1 a (by omega)]; omega
theorem am_putS {l : Launch} {C : am_Cfg} {x : am_X} {dep bc bs pc : Nat} {mi : am_M} {L : List (Option Value)} {st : List Value} {S : am_S} {nn : Nat} {d : am_D} {Q : Option Value → am_S → Nat → am_D → Prop} {a idx b : Nat} {ty0 : Nat → FieldType} (ci k : Nat) (r : vw_C) (hd : decode mi.2.1 pc = .ok (.putfield idx, 3)) (hk : (S a).1 = ci + 3) (ha : a < nn) (hr : (am_cl C)[ci]? = some r) (hkN : k < r.2.2) (hok : am_clok C r ty0) (hl : Cond.fieldLink mi.1.cls idx (r.2.1 k).1 (r.2.1 k).2.1 (r.2.1 k).2.2.1 ∈ am_ts C) (hfin : (r.2.1 k).2.2.2 = false) (hrf : am_rf C ci k = true) (hnar : narrow (ty0 k) (.ref (am_ad x b)) = .ref (am_ad x b)) (hfit : fits (ty0 k) (.ref (am_ad x b)) = true) (kk : am_W l C x dep bc bs mi (pc + 3) L st (am_r S a k b) nn d Q) : am_W l C x dep bc bs mi pc L (.ref b :: .ref a :: st) S nn d Q := by
  intro p e s m args below meth c H locs cells slots mc ms ls hC
  have hx := hC.1.1
  have hb := hC.1.2.1
  obtain ⟨hC1, hH, hS, hbc, hbs, hL⟩ := hC
  have hts := hC1.2.2.2.2.2.2.2.1
  have hown := hC1.2.2.2.2.2.2.1
  have hF := hC1.2.2.2.2.2.2.2.2
  have hn := hH.2.2
  have hap := va_apart (own := mi.1.cls) hts hok.1 ty0 hok.2.1 hok.2.2 hF.1 hr
  obtain ⟨r', h1, hN, cell, q1, q2, q3, q4⟩ := (am_own_3 hk).mp ((hH.1 a (Or.inl ha)).2 (by omega))
  cases hr.symm.trans h1
  obtain ⟨hSl, hfc, kC, hkC, hkind⟩ := hF.1.1 ci _ hr
  obtain ⟨cf, kf, fi, f, hi, hsl⟩ := hSl k hkN
  have hlay := hts _ (hok.1 _ (u_in_lay hkN))
  unfold u_lay at hlay
  rw [if_neg (by rw [hfin]; decide)] at hlay
  have hst := (u_facts hfc hkC (u_lays hts hok.1 hkN) hi).1
  have h6 := u_store hfc hkC hkind hlay hi (hok.2.1 k hkN) hnar hfit
  refine W.putK hx hb (f := f) ⟨hown, hts _ hl, ⟨_, _, _, hi⟩, hst⟩ (by rw [q2]; exact h6) q1 q3 (by rw [hsl]; exact k2_hasslot (q4 k hkN)) rfl rfl hd fun H' e1 e2 e3 => ?_
  rw [hsl] at e1 ⊢
  have hk' : (am_r S a k b a).1 = ci + 3 := by rw [am_r_self]; exact hk
  refine kk p e s m args below meth c H' _ cells slots mc ms ls ⟨hC1, am_H.put hF hH ha e2 e3 am_r_ne (fun _ _ => rfl) ((am_own_3 hk').mpr ⟨r, hr, by rw [am_r_self]; exact hN, t_OB.to (V := updV (am_val C (am_ad x) S d a) k (.ref (am_ad x b))) ⟨_, e1, q2, q3, t_set q4 hap hkN (.ref (am_ad x b))⟩ (fun j _ => ?_)⟩), hS.put e2 e3 ?_, hbc, hbs, hL⟩
  · unfold updV am_val
    rw [am_r_self, hk]
    by_cases hjk : j = k
    · subst hjk; simp [hrf, va_rf]
    · simp [hjk]
  · show am_sz x ≤ am_ad x a
    rw [hF.2.2.2.2.1 a (by omega)]; omega
theorem am_gets {l : Launch} {C : am_Cfg} {x : am_X} {dep bc bs pc : Nat} {mi : am_M} {L : List (Option Value)} {st : List Value} {S : am_S} {nn : Nat} {d : am_D} {Q : Option Value → am_S → Nat → am_D → Prop} {idx : Nat} (z : String × String × String × Nat) (hd : decode mi.2.1 pc = .ok (.getstatic idx, 3)) (hz : z ∈ am_zs C) (hl : Cond.fieldLink mi.1.cls idx z.1 z.2.1 z.2.2.1 ∈ am_ts C) (kk : am_W l C x dep bc bs mi (pc + 3) L (.ref z.2.2.2 :: st) S nn d Q) : am_W l C x dep bc bs mi pc L st S nn d Q := by
  intro p e s m args below meth c H locs cells slots mc ms ls hC
  have hx := hC.1.1
  have hb := hC.1.2.1
  exact va_gets hx hb (hC.1.2.2.2.2.2.2.2.2.2.2.1 z hz) hC.2.2.1 hC.1.2.2.2.2.2.2.1 (hC.1.2.2.2.2.2.2.2.1 _ hl) (fun _ h => h) hd (kk p e s m args below meth c H locs cells slots mc ms ls hC)
theorem am_iret {l : Launch} {C : am_Cfg} {x : am_X} {dep bc bs pc : Nat} {mi : am_M} {L : List (Option Value)} {S : am_S} {nn : Nat} {d : am_D} {Q : Option Value → am_S → Nat → am_D → Prop} {v : Int32} {ty : FieldType} (hd : decode mi.2.1 pc = .ok (.ireturn, 1)) (hret : mi.2.2.2 = some ty) (hnar : narrow ty (.int v) = .int v) (hq : Q (some (.int v)) S nn d) : am_W l C x dep bc bs mi pc L [.int v] S nn d Q := by
  intro p e s m args below meth c H locs cells slots mc ms ls hC
  have hx := hC.1.1
  have hb := hC.1.2.1
  have hlk : meth.locks = false := hC.1.2.2.2.2.1
  have hS := hC.2.2.1
  refine W.widen (k := mc) (n := ms) (by have := hC.2.2.2.1; omega) (by have := hC.2.2.2.2.1; omega) ?_
  exact W.zret hx hb (hC.1.2.2.2.1.trans hret) hnar (fun t ht hW => ⟨(some (.int v)), S, nn, d, rfl, hq, by rw [ht]; exact hC.2.1.moved hW.alike, hS.F ht⟩) hS.2.2 hd hlk
theorem am_vret {l : Launch} {C : am_Cfg} {x : am_X} {dep bc bs pc : Nat} {mi : am_M} {L : List (Option Value)} {S : am_S} {nn : Nat} {d : am_D} {Q : Option Value → am_S → Nat → am_D → Prop} (hd : decode mi.2.1 pc = .ok (.return_, 1)) (hret : mi.2.2.2 = none) (hq : Q none S nn d) : am_W l C x dep bc bs mi pc L [] S nn d Q := by
  intro p e s m args below meth c H locs cells slots mc ms ls hC
  have hx := hC.1.1
  have hb := hC.1.2.1
  have hlk : meth.locks = false := hC.1.2.2.2.2.1
  have hS := hC.2.2.1
  refine W.widen (k := mc) (n := ms) (by have := hC.2.2.2.1; omega) (by have := hC.2.2.2.2.1; omega) ?_
  exact W.vret hx hb (hC.1.2.2.2.1.trans hret) (fun t ht hW => ⟨none, S, nn, d, rfl, hq, by rw [ht]; exact hC.2.1.moved hW.alike, hS.F ht⟩) hS.2.2 hd hlk
def am_good (C : am_Cfg) (mj : am_M) (k : Nat) : Prop := Cond.code mj.1 mj.2.1 mj.2.2.1 mj.2.2.2 ∈ am_ts C ∧ Cond.initialized mj.1.cls ∈ am_ts C ∧ (mj.1.cls ≠ "java/lang/invoke/MethodHandle" ∧ mj.1.cls ≠ "java/lang/invoke/VarHandle" ∧ (parseMethodDescriptor mj.1.desc).map (fun d => d.parameters.length) = some k) ∧ mj.2.2.1 ≤ 60
def am_ml (C : am_Cfg) (own : String) (idx : Nat) (mj : am_M) : Prop := Cond.methodLink own idx mj.1 ∈ am_ts C ∨ ∃ host, Cond.methodLinkNest own idx mj.1 host ∈ am_ns C
theorem am_goodIn {C : am_Cfg} (hok : am_ok C) {mj : am_M} {k : Nat} (hg : am_good C mj k) : GoodIn (am_ts C) (am_ws C mj) := by
  intro w hw
  rcases List.mem_cons.mp hw with rfl | hw
  · exact ⟨hg.1, hok.1 _ hg.1⟩
  · exact ⟨hw, hok.1 _ hw⟩
theorem am_blind {C : am_Cfg} (hok : am_ok C) {x : am_X} {S : am_S} {nn : Nat} {d : am_D} {av : List Value} : FrameBlind (va_Pc av (fun U => am_F C x U ∧ am_H C x S nn d U U.heap)) := by
  intro a U g mk h
  obtain ⟨h0, hF, hH⟩ := h
  have hal : U.vm.Alike (U.calling g mk a).vm := Vm.Alike.refl _
  exact ⟨h0, ⟨va_K.moved hal hF.1, fun w hw => (hok.2 w hw).2 U (U.calling g mk a) rfl (hF.2.1 w hw), fun z hz => (hF.2.2.1 z hz).moved hal, hF.2.2.2⟩, hH.moved hal⟩
theorem am_call {p : Program} {l : Launch} {e : Env} {R : Room} {s : State} {m : MethodId} {args : Array Value} {below : List Frame} {meth : Method} {c : Code} {H : Heap} {locs : List Loc} {cells slots mc ms pc : Nat} {Qs : State → Prop} {C : am_Cfg} {x : am_X} {Q' : Option Value → am_S → Nat → am_D → Prop} {a : Array Value} {ls : Array Slot} {st0 rest : List Value}
    (hr : va_Run p l e R s m args below meth c H locs cells slots mc ms (F0 m pc ls st0) rest (am_Qc C x Q' a) (am_A x)) (hS : va_S (am_A x) s.heap H locs)
    (kk : ∀ (r : Option Value) (S : am_S) (n : Nat) (d : am_D) (H1 : Heap) (locs1 : List Loc), Q' r S n d → am_H C x S n d s H1 → va_S (am_A x) s.heap H1 locs1 → W p l e R s m args below meth c H1 locs1 (cells + mc) (slots + ms) Qs (F0 m (pc + 3) ls ((r.map (am_up (am_ad x))).toList ++ rest))) : W p l e R s m args below meth c H locs cells slots Qs (F0 m pc ls st0) := by
  intro T hT X
  obtain ⟨v, st₀, t, T', L, h0, X', hL, e1, e2, ⟨r, S, n, d, hv, hq, hH, hz, hk⟩, stp⟩ := hr T hT X
  cases hv
  rw [h0] at hz hk
  have hal : s.vm.Alike t.vm := by rw [← e2]; exact X'.warmed.alike
  obtain ⟨t2, a1, b1⟩ := kk r S n d T'.heap (locs ++ L) hq (by rw [e1]; exact hH.moved hal.symm)
    ⟨Nat.le_trans hS.1 (by rw [e1]; exact hz), fun q h1 h2 => by rw [e1, hk q (Nat.lt_of_lt_of_le h1 hS.1) h2]; exact hS.2.1 q h1 h2, fun q hq => by
      rcases List.mem_append.mp hq with h | h
      · exact hS.2.2 q h
      · exact hL q h⟩ T' rfl X'
  exact ⟨t2, stp t2 a1, b1⟩
theorem am_cat {ad : Nat → Nat} {st : List Value} (h : (st.map fun v => v.category).sum ≤ 8) : ((st.map (am_up ad)).map fun v => v.category).sum ≤ 8 := by
  have e : ((st.map (am_up ad)).map fun v => v.category) = st.map fun v => v.category := by
    rw [List.map_map]; apply List.map_congr_left; intro v _; exact am_up_cat ad v
  rw [e]; exact h
theorem am_opt (ad : Nat → Nat) (r : Option Value) (st : List Value) : (r.map (am_up ad)).toList ++ st.map (am_up ad) = (r.toList ++ st).map (am_up ad) := by cases r <;> rfl
theorem am_callS {l : Launch} {C : am_Cfg} {x : am_X} {dep bc bs pc : Nat} {mi : am_M} {L : List (Option Value)} {st : List Value} {S : am_S} {nn : Nat} {d : am_D} {Q : Option Value → am_S → Nat → am_D → Prop} {idx k mc' ms' : Nat} {mj : am_M} {stk : List Value} {Q' : Option Value → am_S → Nat → am_D → Prop} (hok : am_ok C) (as : List Value) (hd : decode mi.2.1 pc = .ok (.invokestatic idx, 3)) (hg : am_good C mj k) (hl : am_ml C mi.1.cls idx mj) (hst : Cond.static mj.1 ∈ am_ts C) (hk : as.length = k) (hstk : as.reverse ++ st = stk) (hs : (st.map fun v => v.category).sum ≤ 8) (hM : am_Met l C x dep mc' ms' mj as S nn d Q') (hc1 : mc' ≤ bc) (hc2 : ms' ≤ bs) (kk : ∀ r S' n' d', Q' r S' n' d' → am_W l C x (dep + 1) (bc - mc') (bs - ms') mi (pc + 3) L (r.toList ++ st) S' n' d' Q) : am_W l C x (dep + 1) bc bs mi pc L stk S nn d Q := by
  intro p e s m args below meth c H locs cells slots mc ms ls hC
  obtain ⟨⟨hx, hb, hml, hr, hlk, hnm, hown, hts, hF⟩, hH, hS, hbc, hbs, hL⟩ := hC
  subst hstk
  have hG := am_goodIn hok hg
  have hR : (am_rm dep mc' ms').frames + 1 ≤ (am_rm (dep + 1) mc ms).frames ∧ 8 + (mj.2.2.1 + 11) + (am_rm dep mc' ms').locals ≤ (am_rm (dep + 1) mc ms).locals := by
    have := hg.2.2.2
    refine ⟨by show dep + 998 + 1 ≤ dep + 1 + 998; omega, ?_⟩
    show 8 + (mj.2.2.1 + 11) + 80 * dep ≤ 80 * (dep + 1)
    omega
  have hP : ∀ U : State, U.heap = H → s.WarmedH U.vm → va_Pc (as.map (am_up (am_ad x))) (fun U => am_F C x U ∧ am_H C x S nn d U U.heap) (as.map (am_up (am_ad x))).toArray U := fun U hU hW => ⟨rfl, am_F.warm hok hF hU hW hS, by rw [hU]; exact hH.moved hW.alike⟩
  have hcs : cells + mc' ≤ (am_rm (dep + 1) mc ms).cells ∧ slots + ms' ≤ (am_rm (dep + 1) mc ms).slots := ⟨by show cells + mc' ≤ mc; omega, by show slots + ms' ≤ ms; omega⟩
  refine am_call (C := C) (Q' := Q') (rest := st.map (am_up (am_ad x))) (mc := mc') (ms := ms') (a := (as.map (am_up (am_ad x))).toArray) ?_ hS (fun r S' n' d' H1 locs1 hq hH1 hS1 => ?_)
  · skip
    rcases hl with hl | ⟨host, hl⟩
    · exact va_runS (bytes := mj.2.1) (maxL := mj.2.2.1) (ret := mj.2.2.2) (As := as.map (am_up (am_ad x))) (n := k) ⟨hx, hb, hml, hown, hts⟩ hM ⟨callB_of k hts hG rfl rfl rfl (hts _ hg.2.1) (hts _ hl) hg.2.2.1 hR, hts _ hst⟩ ⟨am_blind hok, hP⟩ rfl (by rw [List.length_map]; exact hk) hL.1 (by show List.map _ (as.reverse ++ st) = _; rw [List.map_append, List.map_reverse]) (lv_room (am_cat hs)) hd hcs
    · exact va_runSN (host := host) (bytes := mj.2.1) (maxL := mj.2.2.1) (ret := mj.2.2.2) (As := as.map (am_up (am_ad x))) (n := k) ⟨hx, hb, hml, hown, hts⟩ hM ⟨va_cnB k hts hG rfl rfl rfl (hF.2.1 _ hl) (hts _ hg.2.1) hg.2.2.1 hR, ⟨hts _ hst, trivial⟩⟩ ⟨am_blind hok, hP⟩ rfl (by rw [List.length_map]; exact hk) hL.1 (by show List.map _ (as.reverse ++ st) = _; rw [List.map_append, List.map_reverse]) (lv_room (am_cat hs)) hd hcs
  · rw [am_opt]
    exact kk r S' n' d' hq p e s m args below meth c H1 locs1 (cells + mc') (slots + ms') mc ms ls ⟨⟨hx, hb, hml, hr, hlk, hnm, hown, hts, hF⟩, hH1, hS1, by omega, by omega, hL⟩
theorem am_callV {l : Launch} {C : am_Cfg} {x : am_X} {dep bc bs pc : Nat} {mi : am_M} {L : List (Option Value)} {st : List Value} {S : am_S} {nn : Nat} {d : am_D} {Q : Option Value → am_S → Nat → am_D → Prop} {idx k mc' ms' : Nat} {mj : am_M} {stk : List Value} {b : Nat} {Q' : Option Value → am_S → Nat → am_D → Prop} (hok : am_ok C) (as : List Value) (hd : decode mi.2.1 pc = .ok (.invokevirtual idx, 3)) (hg : am_good C mj k) (hl : am_ml C mi.1.cls idx mj) (hst : Cond.instanceMethod mj.1 ∈ am_ts C) (hsel : Cond.selects mj.1.cls mj.1 mj.1 ∈ am_ts C) (ci : Nat) (rc : vw_C) (hbk : (S b).1 = ci + 3) (hbn : b < nn) (hrc : (am_cl C)[ci]? = some rc) (hcn : rc.1 = mj.1.cls) (hk : as.length = k) (hstk : as.reverse ++ .ref b :: st = stk) (hs : (st.map fun v => v.category).sum ≤ 8) (hM : am_Met l C x dep mc' ms' mj (.ref b :: as) S nn d Q') (hc1 : mc' ≤ bc) (hc2 : ms' ≤ bs) (kk : ∀ r S' n' d', Q' r S' n' d' → am_W l C x (dep + 1) (bc - mc') (bs - ms') mi (pc + 3) L (r.toList ++ st) S' n' d' Q) : am_W l C x (dep + 1) bc bs mi pc L stk S nn d Q := by
  intro p e s m args below meth c H locs cells slots mc ms ls hC
  obtain ⟨⟨hx, hb, hml, hr, hlk, hnm, hown, hts, hF⟩, hH, hS, hbc, hbs, hL⟩ := hC
  subst hstk
  have hG := am_goodIn hok hg
  have hR : (am_rm dep mc' ms').frames + 1 ≤ (am_rm (dep + 1) mc ms).frames ∧ 8 + (mj.2.2.1 + 11) + (am_rm dep mc' ms').locals ≤ (am_rm (dep + 1) mc ms).locals := by
    have := hg.2.2.2
    refine ⟨by show dep + 998 + 1 ≤ dep + 1 + 998; omega, ?_⟩
    show 8 + (mj.2.2.1 + 11) + 80 * dep ≤ 80 * (dep + 1)
    omega
  have hP : ∀ U : State, U.heap = H → s.WarmedH U.vm → va_Pc ((Value.ref b :: as).map (am_up (am_ad x))) (fun U => am_F C x U ∧ am_H C x S nn d U U.heap) ((Value.ref b :: as).map (am_up (am_ad x))).toArray U := fun U hU hW => ⟨rfl, am_F.warm hok hF hU hW hS, by rw [hU]; exact hH.moved hW.alike⟩
  have hcs : cells + mc' ≤ (am_rm (dep + 1) mc ms).cells ∧ slots + ms' ≤ (am_rm (dep + 1) mc ms).slots := ⟨by show cells + mc' ≤ mc; omega, by show slots + ms' ≤ ms; omega⟩
  refine am_call (C := C) (Q' := Q') (rest := st.map (am_up (am_ad x))) (mc := mc') (ms := ms') (a := ((Value.ref b :: as).map (am_up (am_ad x))).toArray) ?_ hS (fun r S' n' d' H1 locs1 hq hH1 hS1 => ?_)
  · have hn := hH.2.2
    have hrecv : ∃ cellB : Cell, H[am_ad x b]? = some cellB ∧ cellB.vm.isStatics = false ∧ s.vm.findClass mj.1.cls = some cellB.cls := by
      obtain ⟨r', h1, -, cell, q1, q2, q3, -⟩ := (am_own_3 hbk).mp ((hH.1 b (Or.inl hbn)).2 (by omega))
      cases hrc.symm.trans h1
      refine ⟨cell, q1, by rw [q3]; rfl, ?_⟩
      rw [q2, ← hcn]
      exact (hF.1.1 ci _ hrc).2.1
    rcases hl with hl | ⟨host, hl⟩
    · exact va_runV (C := mj.1.cls) (bytes := mj.2.1) (maxL := mj.2.2.1) (ret := mj.2.2.2) (As := as.map (am_up (am_ad x))) (n := k) ⟨hx, hb, hml, hown, hts⟩ hM ⟨callB_of k hts hG rfl rfl rfl (hts _ hg.2.1) (hts _ hl) hg.2.2.1 hR, ⟨hts _ hst, hts _ hsel⟩⟩ ⟨am_blind hok, hrecv, hP⟩ rfl (by rw [List.length_map]; exact hk) hL.1 (by show List.map _ (as.reverse ++ .ref b :: st) = _; rw [List.map_append, List.map_reverse]; rfl) (lv_room (am_cat hs)) hd hcs
    · exact va_runVN (C := mj.1.cls) (host := host) (bytes := mj.2.1) (maxL := mj.2.2.1) (ret := mj.2.2.2) (As := as.map (am_up (am_ad x))) (n := k) ⟨hx, hb, hml, hown, hts⟩ hM ⟨va_cnB k hts hG rfl rfl rfl (hF.2.1 _ hl) (hts _ hg.2.1) hg.2.2.1 hR, ⟨hts _ hst, hts _ hsel⟩⟩ ⟨am_blind hok, hrecv, hP⟩ rfl (by rw [List.length_map]; exact hk) hL.1 (by show List.map _ (as.reverse ++ .ref b :: st) = _; rw [List.map_append, List.map_reverse]; rfl) (lv_room (am_cat hs)) hd hcs
  · rw [am_opt]
    exact kk r S' n' d' hq p e s m args below meth c H1 locs1 (cells + mc') (slots + ms') mc ms ls ⟨⟨hx, hb, hml, hr, hlk, hnm, hown, hts, hF⟩, hH1, hS1, by omega, by omega, hL⟩
theorem am_callI {l : Launch} {C : am_Cfg} {x : am_X} {dep bc bs pc : Nat} {mi : am_M} {L : List (Option Value)} {st : List Value} {S : am_S} {nn : Nat} {d : am_D} {Q : Option Value → am_S → Nat → am_D → Prop} {idx k mc' ms' : Nat} {mj : am_M} {stk : List Value} {b : Nat} {Q' : Option Value → am_S → Nat → am_D → Prop} (hok : am_ok C) (as : List Value) (hd : decode mi.2.1 pc = .ok (.invokespecial idx, 3)) (hg : am_good C mj k) (hl : am_ml C mi.1.cls idx mj) (hst : Cond.instanceMethod mj.1 ∈ am_ts C) (hin : mj.1.name = "<init>") (hret : mj.2.2.2 = none) (hk : as.length = k) (hstk : as.reverse ++ .ref b :: st = stk) (hs : (st.map fun v => v.category).sum ≤ 8) (hM : am_Met l C x dep mc' ms' mj (.ref b :: as) S nn d Q') (hc1 : mc' ≤ bc) (hc2 : ms' ≤ bs) (kk : ∀ r S' n' d', Q' r S' n' d' → am_W l C x (dep + 1) (bc - mc') (bs - ms') mi (pc + 3) L (r.toList ++ st) S' n' d' Q) : am_W l C x (dep + 1) bc bs mi pc L stk S nn d Q := by
  intro p e s m args below meth c H locs cells slots mc ms ls hC
  obtain ⟨⟨hx, hb, hml, hr, hlk, hnm, hown, hts, hF⟩, hH, hS, hbc, hbs, hL⟩ := hC
  subst hstk
  have hG := am_goodIn hok hg
  have hR : (am_rm dep mc' ms').frames + 1 ≤ (am_rm (dep + 1) mc ms).frames ∧ 8 + (mj.2.2.1 + 11) + (am_rm dep mc' ms').locals ≤ (am_rm (dep + 1) mc ms).locals := by
    have := hg.2.2.2
    refine ⟨by show dep + 998 + 1 ≤ dep + 1 + 998; omega, ?_⟩
    show 8 + (mj.2.2.1 + 11) + 80 * dep ≤ 80 * (dep + 1)
    omega
  have hP : ∀ U : State, U.heap = H → s.WarmedH U.vm → va_Pc ((Value.ref b :: as).map (am_up (am_ad x))) (fun U => am_F C x U ∧ am_H C x S nn d U U.heap) ((Value.ref b :: as).map (am_up (am_ad x))).toArray U := fun U hU hW => ⟨rfl, am_F.warm hok hF hU hW hS, by rw [hU]; exact hH.moved hW.alike⟩
  have hcs : cells + mc' ≤ (am_rm (dep + 1) mc ms).cells ∧ slots + ms' ≤ (am_rm (dep + 1) mc ms).slots := ⟨by show cells + mc' ≤ mc; omega, by show slots + ms' ≤ ms; omega⟩
  refine am_call (C := C) (Q' := Q') (rest := st.map (am_up (am_ad x))) (mc := mc') (ms := ms') (a := ((Value.ref b :: as).map (am_up (am_ad x))).toArray) ?_ hS (fun r S' n' d' H1 locs1 hq hH1 hS1 => ?_)
  · skip
    have hw0 : am_ws C mj = Cond.code mj.1 mj.2.1 mj.2.2.1 none :: am_ts C := by show _ :: _ = _; rw [hret]
    rcases hl with hl | ⟨host, hl⟩
    · exact va_runI (bytes := mj.2.1) (maxL := mj.2.2.1) (As := as.map (am_up (am_ad x))) (n := k) ⟨hx, hb, hml, hown, hts⟩ hM ⟨callB_of k hts hG hw0 rfl rfl (hts _ hg.2.1) (hts _ hl) hg.2.2.1 hR, ⟨hin, hts _ hst⟩⟩ ⟨am_blind hok, hP⟩ rfl (by rw [List.length_map]; exact hk) hL.1 (by show List.map _ (as.reverse ++ .ref b :: st) = _; rw [List.map_append, List.map_reverse]; rfl) (lv_room (am_cat hs)) hd hcs
    · exact va_runIN (host := host) (bytes := mj.2.1) (maxL := mj.2.2.1) (As := as.map (am_up (am_ad x))) (n := k) ⟨hx, hb, hml, hown, hts⟩ hM ⟨va_cnB k hts hG hw0 rfl rfl (hF.2.1 _ hl) (hts _ hg.2.1) hg.2.2.1 hR, ⟨hin, hts _ hst⟩⟩ ⟨am_blind hok, hP⟩ rfl (by rw [List.length_map]; exact hk) hL.1 (by show List.map _ (as.reverse ++ .ref b :: st) = _; rw [List.map_append, List.map_reverse]; rfl) (lv_room (am_cat hs)) hd hcs
  · rw [am_opt]
    exact kk r S' n' d' hq p e s m args below meth c H1 locs1 (cells + mc') (slots + ms') mc ms ls ⟨⟨hx, hb, hml, hr, hlk, hnm, hown, hts, hF⟩, hH1, hS1, by omega, by omega, hL⟩
theorem am_objInit {l : Launch} {C : am_Cfg} {x : am_X} {dep bc bs pc : Nat} {mi : am_M} {L : List (Option Value)} {st : List Value} {S : am_S} {nn : Nat} {d : am_D} {Q : Option Value → am_S → Nat → am_D → Prop} {idx a : Nat} (hd : decode mi.2.1 pc = .ok (.invokespecial idx, 3)) (hl : Cond.methodLink mi.1.cls idx Lib.objectInit ∈ am_ts C) (hi : Cond.instanceMethod Lib.objectInit ∈ am_ts C) (hc : Cond.code Lib.objectInit ⟨#[0xb1]⟩ 1 none ∈ am_ts C) (hs : (st.map fun v => v.category).sum ≤ 8) (kk : am_W l C x (dep + 1) bc bs mi (pc + 3) L st S nn d Q) : am_W l C x (dep + 1) bc bs mi pc L (.ref a :: st) S nn d Q := by
  intro p e s m args below meth c H locs cells slots mc ms ls hC
  have hx := hC.1.1
  have hb := hC.1.2.1
  have hts := hC.1.2.2.2.2.2.2.2.1
  have hsz := hC.at.1
  have hml := hC.1.2.2.1
  refine W.objInit hx hb hC.1.2.2.2.2.2.2.1 (hts _ hl) (hts _ hi) (hts _ hc) rfl (by rw [hml]; exact hsz) rfl hd (by show 1 ≤ dep + 1 + 998; omega) ?_ (kk p e s m args below meth c H locs cells slots mc ms ls hC)
  have := am_cat (ad := am_ad x) hs
  show 2 * 0 + _ + 12 ≤ 80 * (dep + 1)
  omega
theorem am_mmax {l : Launch} {C : am_Cfg} {x : am_X} {dep bc bs pc : Nat} {mi : am_M} {L : List (Option Value)} {st : List Value} {S : am_S} {nn : Nat} {d : am_D} {Q : Option Value → am_S → Nat → am_D → Prop} {idx : Nat} {u v : Int32} (hd : decode mi.2.1 pc = .ok (.invokestatic idx, 3)) (hl : Cond.methodLink mi.1.cls idx Lib.Math.max.name ∈ am_ts C) (hi : Cond.static Lib.Math.max.name ∈ am_ts C) (hini : Cond.initialized "java/lang/Math" ∈ am_ts C) (hc : Cond.code Lib.Math.max.name Lib.Math.max.code 2 (some .int) ∈ am_ts C) (hs : (st.map fun v => v.category).sum ≤ 8) (kk : am_W l C x (dep + 1) bc bs mi (pc + 3) L (.int (if u < v then v else u) :: st) S nn d Q) : am_W l C x (dep + 1) bc bs mi pc L (.int v :: .int u :: st) S nn d Q := by
  intro p e s m args below meth c H locs cells slots mc ms ls hC
  have hx := hC.1.1
  have hb := hC.1.2.1
  have hts := hC.1.2.2.2.2.2.2.2.1
  have hsz := hC.at.1
  have hml := hC.1.2.2.1
  refine va_mmax hx hb (by rw [hml]; exact hsz.symm) hC.1.2.2.2.2.2.2.1 (hts _ hl) (hts _ hi) (hts _ hini) (hts _ hc) (by show 1 ≤ dep + 1 + 998; omega) ?_ (by show cells ≤ mc; have := hC.2.2.2.1; omega) (by show slots ≤ ms; have := hC.2.2.2.2.1; omega) hd (kk p e s m args below meth c H locs cells slots mc ms ls hC)
  have := am_cat (ad := am_ad x) hs
  show _ + 13 ≤ 80 * (dep + 1)
  omega
theorem am_mmin {l : Launch} {C : am_Cfg} {x : am_X} {dep bc bs pc : Nat} {mi : am_M} {L : List (Option Value)} {st : List Value} {S : am_S} {nn : Nat} {d : am_D} {Q : Option Value → am_S → Nat → am_D → Prop} {idx : Nat} {u v : Int32} (hd : decode mi.2.1 pc = .ok (.invokestatic idx, 3)) (hl : Cond.methodLink mi.1.cls idx Lib.Math.min.name ∈ am_ts C) (hi : Cond.static Lib.Math.min.name ∈ am_ts C) (hini : Cond.initialized "java/lang/Math" ∈ am_ts C) (hc : Cond.code Lib.Math.min.name Lib.Math.min.code 2 (some .int) ∈ am_ts C) (hs : (st.map fun v => v.category).sum ≤ 8) (kk : am_W l C x (dep + 1) bc bs mi (pc + 3) L (.int (if v < u then v else u) :: st) S nn d Q) : am_W l C x (dep + 1) bc bs mi pc L (.int v :: .int u :: st) S nn d Q := by
  intro p e s m args below meth c H locs cells slots mc ms ls hC
  have hx := hC.1.1
  have hb := hC.1.2.1
  have hts := hC.1.2.2.2.2.2.2.2.1
  have hsz := hC.at.1
  have hml := hC.1.2.2.1
  refine va_mmin hx hb (by rw [hml]; exact hsz.symm) hC.1.2.2.2.2.2.2.1 (hts _ hl) (hts _ hi) (hts _ hini) (hts _ hc) (by show 1 ≤ dep + 1 + 998; omega) ?_ (by show cells ≤ mc; have := hC.2.2.2.1; omega) (by show slots ≤ ms; have := hC.2.2.2.2.1; omega) hd (kk p e s m args below meth c H locs cells slots mc ms ls hC)
  have := am_cat (ad := am_ad x) hs
  show _ + 13 ≤ 80 * (dep + 1)
  omega
end
section
def am_nw (S : am_S) (a : Nat) (k : Nat × Nat × (Nat → Option Nat)) : am_S := fun b => if b = a then k else S b
def am_nd (d : am_D) (a : Nat) (f : Nat → Int32) : am_D := fun b => if b = a then f else d b
theorem am_nw_self {S : am_S} {a : Nat} {k : Nat × Nat × (Nat → Option Nat)} : am_nw S a k a = k := by unfold am_nw; rw [if_pos rfl]
theorem am_nd_self {d : am_D} {a : Nat} {f : Nat → Int32} : am_nd d a f a = f := by unfold am_nd; rw [if_pos rfl]
theorem am_nw_ne {S : am_S} {a b : Nat} {k : Nat × Nat × (Nat → Option Nat)} (h : b ≠ a) : am_nw S a k b = S b := by unfold am_nw; rw [if_neg h]
theorem am_nd_ne {d : am_D} {a b : Nat} {f : Nat → Int32} (h : b ≠ a) : am_nd d a f b = d b := by unfold am_nd; rw [if_neg h]
theorem am_H.push {C : am_Cfg} {x : am_X} {S : am_S} {n : Nat} {d : am_D} {U : State} {H H' : Heap} {k : Nat × Nat × (Nat → Option Nat)} {f : Nat → Int32} (hF : am_F C x U) (h : am_H C x S n d U H) (hn : n < 1000) (hz : H'.size = H.size + 1) (ho : ∀ q, q < H.size → H'[q]? = H[q]?) (hc : am_own C x (am_nw S n k) (am_nd d n f) U H' n) : am_H C x (am_nw S n k) (n + 1) (am_nd d n f) U H' := by
  obtain ⟨h1, h2, h3⟩ := h
  refine ⟨fun b hb => ?_, by omega, by omega⟩
  by_cases e : b = n
  · subst e
    exact ⟨fun z => by omega, fun _ => hc⟩
  · have hb' : b < n ∨ (1000 ≤ b ∧ b < 1002) := by omega
    refine ((h1 b hb').kept (ho _ ?_)).same (am_nw_ne e) (am_nd_ne e)
    rcases hb' with z | z
    · rw [hF.2.2.2.2.1 b (by omega)]; omega
    · have := hF.2.2.2.2.2 b z.1; omega
theorem am_S.push {x : am_X} {H0 H H' : Heap} {locs : List Loc} (hS : va_S (am_A x) H0 H locs) (hz : H'.size = H.size + 1) (ho : ∀ q, q < H.size → H'[q]? = H[q]?) : va_S (am_A x) H0 H' locs :=
  ⟨by have := hS.1; omega, fun q h1 h2 => (ho q (Nat.lt_of_lt_of_le h1 hS.1)).trans (hS.2.1 q h1 h2), hS.2.2⟩
theorem am_newI {l : Launch} {C : am_Cfg} {x : am_X} {dep bc bs pc : Nat} {mi : am_M} {L : List (Option Value)} {st : List Value} {S : am_S} {nn : Nat} {d : am_D} {Q : Option Value → am_S → Nat → am_D → Prop} {v : Int32} (N : Nat) (hd : decode mi.2.1 pc = .ok (.newarray .int, 2)) (hw : Cond.arrayClass .int ∈ am_ts C) (hv : v = nI N) (hN : N ≤ 100000) (hn : nn < 1000) (kk : am_W l C x dep bc bs mi (pc + 2) L (.ref nn :: st) (am_nw S nn (0, N, fun _ => none)) (nn + 1) (am_nd d nn (fun _ => 0)) Q) : am_W l C x dep (bc + 1) (bs + N) mi pc L (.int v :: st) S nn d Q := by
  intro p e s m args below meth c H locs cells slots mc ms ls hC
  obtain ⟨⟨hx, hb, hml, hr, hlk, hnm, hown, hts, hF⟩, hH, hS, hbc, hbs, hL⟩ := hC
  subst hv
  have hcl : (nI N).toNatClampNeg = N := nI_clamp (by omega)
  refine va_newaK (atype := .int) hx hb (hts _ hw) rfl hd rfl (nI_pos (by omega)) hcl (by show N * _ ≤ _; simp only [Op.newarray.typeOf, componentBytes]; omega) (by show cells + 1 ≤ mc; omega) (by show slots + N ≤ ms; omega) rfl fun H' cA e1 e2 e3 hA _ => ?_
  have hk : (am_nw S nn (0, N, fun _ => none) nn).1 = 0 := by rw [am_nw_self]
  have hq : H.size = am_ad x nn := by rw [hF.2.2.2.2.1 nn hn]; exact hH.2.1
  rw [hq]
  refine kk p e s m args below meth c H' locs (cells + 1) (slots + N) mc ms ls ⟨⟨hx, hb, hml, hr, hlk, hnm, hown, hts, hF⟩, am_H.push hF hH hn e2 e3 ((am_own_0 hk).mpr ⟨cA, ?_, hA⟩), am_S.push hS e2 e3, by omega, by omega, hL⟩
  rw [am_nw_self, am_nd_self, ← hq]
  exact e1
theorem am_newC {l : Launch} {C : am_Cfg} {x : am_X} {dep bc bs pc : Nat} {mi : am_M} {L : List (Option Value)} {st : List Value} {S : am_S} {nn : Nat} {d : am_D} {Q : Option Value → am_S → Nat → am_D → Prop} {v : Int32} (N : Nat) (hd : decode mi.2.1 pc = .ok (.newarray .char, 2)) (hw : Cond.arrayClass .char ∈ am_ts C) (hv : v = nI N) (hN : N ≤ 100000) (hn : nn < 1000) (kk : am_W l C x dep bc bs mi (pc + 2) L (.ref nn :: st) (am_nw S nn (1, N, fun _ => none)) (nn + 1) (am_nd d nn (fun _ => 0)) Q) : am_W l C x dep (bc + 1) (bs + N) mi pc L (.int v :: st) S nn d Q := by
  intro p e s m args below meth c H locs cells slots mc ms ls hC
  obtain ⟨⟨hx, hb, hml, hr, hlk, hnm, hown, hts, hF⟩, hH, hS, hbc, hbs, hL⟩ := hC
  subst hv
  have hcl : (nI N).toNatClampNeg = N := nI_clamp (by omega)
  refine va_newaK (atype := .char) hx hb (hts _ hw) rfl hd rfl (nI_pos (by omega)) hcl (by show N * _ ≤ _; simp only [Op.newarray.typeOf, componentBytes]; omega) (by show cells + 1 ≤ mc; omega) (by show slots + N ≤ ms; omega) rfl fun H' cA e1 e2 e3 hA _ => ?_
  have hk : (am_nw S nn (1, N, fun _ => none) nn).1 = 1 := by rw [am_nw_self]
  have hq : H.size = am_ad x nn := by rw [hF.2.2.2.2.1 nn hn]; exact hH.2.1
  rw [hq]
  refine kk p e s m args below meth c H' locs (cells + 1) (slots + N) mc ms ls ⟨⟨hx, hb, hml, hr, hlk, hnm, hown, hts, hF⟩, am_H.push hF hH hn e2 e3 ((am_own_1 hk).mpr ⟨cA, ?_, hA⟩), am_S.push hS e2 e3, by omega, by omega, hL⟩
  rw [am_nw_self, am_nd_self, ← hq]
  exact e1
theorem am_new {l : Launch} {C : am_Cfg} {x : am_X} {dep bc bs pc : Nat} {mi : am_M} {L : List (Option Value)} {st : List Value} {S : am_S} {nn : Nat} {d : am_D} {Q : Option Value → am_S → Nat → am_D → Prop} {idx : Nat} {ty0 : Nat → FieldType} (ci : Nat) (r : vw_C) (hd : decode mi.2.1 pc = .ok (.new idx, 3)) (hr : (am_cl C)[ci]? = some r) (hok : am_clok C r ty0) (hl : Cond.classLink mi.1.cls idx r.1 ∈ am_ts C) (hi : Cond.instantiable r.1 r.2.2 ∈ am_ts C) (hini : Cond.initialized r.1 ∈ am_ts C) (hdef : ∀ j, j < r.2.2 → defaultValue (ty0 j) = if am_rf C ci j = true then .null else .int 0) (hn : nn < 1000) (kk : am_W l C x dep bc bs mi (pc + 3) L (.ref nn :: st) (am_nw S nn (ci + 3, r.2.2, fun _ => none)) (nn + 1) (am_nd d nn (fun _ => 0)) Q) : am_W l C x dep (bc + 1) (bs + r.2.2) mi pc L st S nn d Q := by
  intro p e s m args below meth c H locs cells slots mc ms ls hC
  obtain ⟨⟨hx, hb, hml, hrt, hlk, hnm, hown, hts, hF⟩, hH, hS, hbc, hbs, hL⟩ := hC
  have hKn := hF.1.1 ci _ hr
  refine W.newcK hx hb hown (hts _ hl) (hts _ hi) (hts _ hini) rfl hd (by show cells + 1 ≤ mc; omega) (by show slots + r.2.2 ≤ ms; omega) hKn.2.1 rfl fun H' kC hkC e1 e2 e3 => ?_
  have hk : (am_nw S nn (ci + 3, r.2.2, fun _ => none) nn).1 = ci + 3 := by rw [am_nw_self]
  have hq : H.size = am_ad x nn := by rw [hF.2.2.2.2.1 nn hn]; exact hH.2.1
  rw [hq]
  refine kk p e s m args below meth c H' locs (cells + 1) (slots + r.2.2) mc ms ls ⟨⟨hx, hb, hml, hrt, hlk, hnm, hown, hts, hF⟩, am_H.push hF hH hn e2 e3 ((am_own_3 hk).mpr ⟨r, hr, by rw [am_nw_self], ?_⟩), am_S.push hS e2 e3, by omega, by omega, hL⟩
  rw [← hq]
  refine (u_born ty0 hts hok.1 hKn hkC e1 hok.2.1).to (fun j hj => ?_)
  rw [hdef j hj]
  unfold am_val
  rw [am_nw_self, am_nd_self]
  show _ = if am_rf C (ci + 3 - 3) j = true then va_rf none else .int 0
  rw [Nat.add_sub_cancel]
  rfl
def am_cp (d : am_D) (a b k : Nat) : am_D := fun q j => if q = b ∧ j < k then d a j else d q j
theorem am_cp_ne {d : am_D} {a b k : Nat} (q : Nat) (h : q ≠ b) : am_cp d a b k q = d q := by funext j; unfold am_cp; rw [if_neg (fun z => h z.1)]
theorem am_copy {l : Launch} {C : am_Cfg} {x : am_X} {dep bc bs pc : Nat} {mi : am_M} {L : List (Option Value)} {st : List Value} {S : am_S} {nn : Nat} {d : am_D} {Q : Option Value → am_S → Nat → am_D → Prop} {idx a b : Nat} {v : Int32} (k : Nat) (hd : decode mi.2.1 pc = .ok (.invokestatic idx, 3)) (hl : Cond.methodLink mi.1.cls idx arraycopyName ∈ am_ts C) (hnat : Cond.native arraycopyName ∈ am_ts C) (hstat : Cond.static arraycopyName ∈ am_ts C) (hini : Cond.initialized "java/lang/System" ∈ am_ts C) (hka : (S a).1 = 0) (hkb : (S b).1 = 0) (ha : a < nn) (hbn : b < nn) (hv : v = nI k) (h4 : k ≤ (S a).2.1) (h5 : k ≤ (S b).2.1) (hm : k < 2147483648) (hs : (st.map fun v => v.category).sum ≤ 8) (kk : am_W l C x (dep + 1) bc bs mi (pc + 3) L st S nn (am_cp d a b k) Q) : am_W l C x (dep + 1) bc bs mi pc L (.int v :: .int 0 :: .ref b :: .int 0 :: .ref a :: st) S nn d Q := by
  intro p e s m args below meth c H locs cells slots mc ms ls hC
  obtain ⟨⟨hx, hb, hml, hr, hlk, hnm, hown, hts, hF⟩, hH, hS, hbc, hbs, hL⟩ := hC
  subst hv
  have hcl : (nI k).toNatClampNeg = k := nI_clamp (by omega)
  have h0 : (0 : Int32).toNatClampNeg = 0 := sb_cl0
  have h00 : ¬ (0 : Int32) < 0 := by decide
  have hk0 : ¬ nI k < 0 := nI_pos (by omega)
  have hn := hH.2.2
  obtain ⟨c0, g0, t0⟩ := (am_own_0 hka).mp ((hH.1 a (Or.inl ha)).2 (by omega))
  obtain ⟨c1, g1, t1⟩ := (am_own_0 hkb).mp ((hH.1 b (Or.inl hbn)).2 (by omega))
  intro T hT X
  obtain ⟨-, k0, hk0', cm0, hkk0⟩ := t0 (S a).2.1 (fun j => .int (d a j))
  obtain ⟨-, k1, hk1', cm1, hkk1⟩ := t1 (S b).2.1 (fun j => .int (d b j))
  have hcat := am_cat (ad := am_ad x) hs
  have hnw : nativeFrameWords "java/lang/System" "arraycopy" 5 + 11 ≤ 60 := by decide +kernel
  have hfw : 2 * 0 + ((st.map (am_up (am_ad x))).map fun v => v.category).sum + (nativeFrameWords "java/lang/System" "arraycopy" 5 + 11) ≤ 80 * (dep + 1) := by omega
  obtain ⟨vm', X', step⟩ := X.arraycopy hx hown (hts _ hl) (hts _ hnat) (hts _ hstat) (hts _ hini) (src := am_ad x a) (dst := am_ad x b) (cs := arrV c0 (S a).2.1 (fun j => .int (d a j))) (cd := arrV c1 (S b).2.1 (fun j => .int (d b j))) (srcPos := 0) (destPos := 0) (n := nI k) (by rw [hT]; exact g0) (by rw [hT]; exact g1)
    (fun _ h => by cases h) (fun _ h => by cases h) (fun h => by cases h) (fun h => by cases h) hk0' hk1' hkk0 hkk1 (by simp [refKind]) h00 h00 hk0
    (by rw [nI_toInt (by omega), arrV_size]; show ¬ (0 : Int) + _ > _; omega)
    (by rw [nI_toInt (by omega), arrV_size]; show ¬ (0 : Int) + _ > _; omega)
    (fun vm₁ _ i hi => by
      rw [hcl] at hi
      have e : (arrV c0 (S a).2.1 (fun j => Value.int (d a j))).slots.getD ((0 : Int32).toNatClampNeg + i) .null = .int (d a ((0 : Int32).toNatClampNeg + i)) := by
        rw [Array.getD_eq_getD_getElem?, arrV_read _ _ (by rw [h0]; omega)]
        rfl
      refine ⟨?_, ?_⟩
      · rw [e]
        rfl
      · rw [e]
        exact trivial)
    (g := F0 m pc ls (.int (nI k) :: .int 0 :: .ref (am_ad x b) :: .int 0 :: .ref (am_ad x a) :: st.map (am_up (am_ad x)))) rfl (by show ls.size = _; rw [hml]; exact hL.1) (rest := st.map (am_up (am_ad x))) rfl (by rw [hb]; exact hd) (by show 1 ≤ dep + 1 + 998; omega) hfw
  have e1 : copied (arrV c0 (S a).2.1 (fun j => Value.int (d a j))) (arrV c1 (S b).2.1 (fun j => Value.int (d b j))) 0 0 (nI k) = arrV c1 (S b).2.1 (fun j => Value.int (va_cpy (d a) (d b) (0 : Int32).toNatClampNeg (0 : Int32).toNatClampNeg (nI k).toNatClampNeg j)) := va_copied (fun z => .int z) c0 c1 (d a) (d b) (by rw [h0, hcl]; omega)
  rw [h0, hcl] at e1
  have e4 : (fun j => Value.int (va_cpy (d a) (d b) 0 0 k j)) = fun j => Value.int (am_cp d a b k b j) := by
    funext j; unfold va_cpy am_cp
    by_cases hj : j < k <;> simp [hj]
  rw [e4] at e1
  rw [e1] at X' step
  have hlt : am_ad x b < H.size := (Array.getElem?_eq_some_iff.mp g1).1
  have hheap : ((T.setVm vm').setCell (am_ad x b) (arrV c1 (S b).2.1 (fun j => Value.int (am_cp d a b k b j)))).heap = H.setIfInBounds (am_ad x b) (arrV c1 (S b).2.1 (fun j => Value.int (am_cp d a b k b j))) := by rw [← hT]; rfl
  have oq : ∀ q : Nat, q ≠ am_ad x b → (H.setIfInBounds (am_ad x b) (arrV c1 (S b).2.1 (fun j => Value.int (am_cp d a b k b j))))[q]? = H[q]? := fun q hq => by simp [Array.getElem?_setIfInBounds, Ne.symm hq]
  have hA : am_A x (am_ad x b) := by show am_sz x ≤ am_ad x b; rw [hF.2.2.2.2.1 b (by omega)]; omega
  obtain ⟨t, a1, b1⟩ := kk p e s m args below meth c _ _ cells slots mc ms ls ⟨⟨hx, hb, hml, hr, hlk, hnm, hown, hts, hF⟩, am_H.put (S' := S) (d' := am_cp d a b k) hF hH hbn (by simp) oq (fun _ _ => rfl) am_cp_ne ((am_own_0 hkb).mpr ⟨c1, show (H.setIfInBounds (am_ad x b) _)[am_ad x b]? = some _ by simp [Array.getElem?_setIfInBounds, hlt], t1⟩), ⟨by simp; exact hS.1, fun q z1 z2 => by
      rw [oq q (fun e => z2 (by rw [e]; exact hA))]
      exact hS.2.1 q z1 z2, fun q hq => by
      rcases List.mem_append.mp hq with h | h
      · exact hS.2.2 q h
      · obtain ⟨z, -, hz⟩ := List.mem_map.mp h
        rw [← hz]
        exact hA⟩, hbc, hbs, hL⟩ _ hheap X'
  exact ⟨t, step t a1, b1⟩
end
section
/-! int[N][M] by one instruction: the outer array, then a row and its place in turn -/
def mm_row (comp : ClassId) (M : Nat) : Cell := arrV comp M (fun _ => .int 0)
def mm_out (c : ClassId) (N h i : Nat) : Cell := arrV c N (fun j => if j < i then .ref (h + 1 + j) else .null)
def mm_st (s : State) (c comp : ClassId) (N M : Nat) : Nat → State
  | 0 => s.pushCell (mm_out c N s.heap.size 0)
  | i + 1 => ((mm_st s c comp N M i).pushCell (mm_row comp M)).setCell s.heap.size (mm_out c N s.heap.size (i + 1))
theorem mm_out_set (c : ClassId) (N h i : Nat) : (mm_out c N h i).setSlot i (.ref (h + 1 + i)) = mm_out c N h (i + 1) := by
  unfold mm_out
  rw [arrV_store]
  congr 1
  funext j
  unfold updV
  by_cases e : j = i
  · subst e; simp
  · by_cases h1 : j < i
    · simp [e, h1, show j < i + 1 by omega]
    · simp [e, h1, show ¬ j < i + 1 by omega]
theorem mm_facts (s : State) (c comp : ClassId) (N M : Nat) : ∀ i, (mm_st s c comp N M i).heap.size = s.heap.size + 1 + i ∧ (mm_st s c comp N M i).heap[s.heap.size]? = some (mm_out c N s.heap.size i) ∧ (mm_st s c comp N M i).vm = s.vm ∧ (mm_st s c comp N M i).slotsUsed = s.slotsUsed + N + i * M
  | 0 => ⟨by simp [mm_st], by simp [mm_st], rfl, by simp [mm_st, mm_out, arrV_size]⟩
  | i + 1 => by
    obtain ⟨h1, h2, h3, h4⟩ := mm_facts s c comp N M i
    have hlt : s.heap.size < (mm_st s c comp N M i).heap.size := by omega
    have h5 : ((mm_st s c comp N M i).pushCell (mm_row comp M)).heap[s.heap.size]? = some (mm_out c N s.heap.size i) := by rw [State.heap_pushCell_of_lt (h := hlt)]; exact h2
    have e1 : (mm_out c N s.heap.size i).slots.size = N := arrV_size _ _ _
    have e2 : (mm_out c N s.heap.size (i + 1)).slots.size = N := arrV_size _ _ _
    have e3 : (mm_row comp M).slots.size = M := arrV_size _ _ _
    refine ⟨?_, State.heap_setCell_self h5, by simp [mm_st, h3], ?_⟩
    · simp [mm_st, State.setCell, h1]; omega
    · rw [mm_st, ← mm_out_set]
      simp [h4, e3, Nat.succ_mul]; omega
theorem mm_top (s : State) (f : JFrame) (c comp : ClassId) (N M : Nat) : ∀ i, mm_st (s.setTop f) c comp N M i = (mm_st s c comp N M i).setTop f
  | 0 => rfl
  | i + 1 => by simp only [mm_st, mm_top s f c comp N M i, State.heap_setTop, State.pushCell_setTop, State.setCell_setTop]
theorem mm_old (s : State) (c comp : ClassId) (N M : Nat) {a : Nat} (ha : a < s.heap.size) : ∀ i, (mm_st s c comp N M i).heap[a]? = s.heap[a]?
  | 0 => State.heap_pushCell_of_lt _ _ ha
  | i + 1 => by
    have h1 := (mm_facts s c comp N M i).1
    have hlt : a < (mm_st s c comp N M i).heap.size := by rw [h1]; omega
    rw [mm_st, State.heap_setCell_other (Nat.ne_of_gt ha), State.heap_pushCell_of_lt (h := hlt)]
    exact mm_old s c comp N M ha i
theorem mm_rows (s : State) (c comp : ClassId) (N M : Nat) : ∀ i j, j < i → (mm_st s c comp N M i).heap[s.heap.size + 1 + j]? = some (mm_row comp M)
  | 0, _, h => absurd h (Nat.not_lt_zero _)
  | i + 1, j, h => by
    have h1 := (mm_facts s c comp N M i).1
    rw [mm_st, State.heap_setCell_other (show s.heap.size ≠ s.heap.size + 1 + j by omega)]
    by_cases hj : j < i
    · have hlt : s.heap.size + 1 + j < (mm_st s c comp N M i).heap.size := by rw [h1]; omega
      rw [State.heap_pushCell_of_lt (h := hlt)]
      exact mm_rows s c comp N M i j hj
    · have e : j = i := by omega
      subst e
      rw [← h1]
      exact State.heap_pushCell_size _ _
section MMW
variable {E : CtlPost} {e : Env} {dd : Bool} {acts : List Action} {s : State}
theorem mm_new {c comp : ClassId} {k : Class} {type : FieldType} {len : Nat} {init : Value} (hk : s.vm.classes[c]? = some k) (hkind : k.kind = .array comp type)
    (hl : ¬ len > e.platform.arrayLengthLimit) (hh : ¬ len * componentBytes type > e.platform.maxHeapBytes) (hfit : fits type init = true) (hdef : init.isDefault = true) {Q : Addr → Pre}
    (h1 : s.heap.size < e.platform.maxCells) (h2 : s.slotsUsed + len ≤ e.platform.maxSlots)
    (hq : Q s.heap.size dd acts (s.pushCell (arrV c len (fun _ => init)))) : wp (Jvm.newArray c len init) Q E e dd acts s := by
  have hfits : ∀ i v, (Array.replicate len init)[i]? = some v → s.fitsSlot c .none i v = true := by
    intro i v hv
    rw [Array.getElem?_replicate] at hv
    split at hv
    · cases hv; simp [State.fitsSlot, State.slotType?, hk, hkind, hfit]
    · cases hv
  have hall : ((Array.replicate len init).all (·.isDefault)) = true := by
    rw [Array.all_replicate]; split <;> simp [hdef]
  have hda : allocActs (Array.replicate len init) s.heap.size acts = acts := by unfold allocActs; rw [if_pos hall]
  rw [← arrV_new] at hq
  simp only [Jvm.newArray, Jvm.arrayFits, wp_bind', W.ask, W.ite, hl, if_false, wp_pure', W.theClass, hk, hkind, hh, W.alloc, W.stop, Option.some.injEq, exists_eq_left', Array.size_replicate, hda]
  rw [if_neg (by omega)]
  exact ⟨h1, h2, hfits, hq⟩
theorem mm_make1 {comp cc : ClassId} {kc : Class} {m : Int32} (hkc : s.vm.classes[comp]? = some kc) (hkindc : kc.kind = .array cc .int) (hm : ¬ m < 0)
    (hl : ¬ m.toNatClampNeg > e.platform.arrayLengthLimit) (hh : ¬ m.toNatClampNeg * componentBytes .int > e.platform.maxHeapBytes)
    (h1 : s.heap.size < e.platform.maxCells) (h2 : s.slotsUsed + m.toNatClampNeg ≤ e.platform.maxSlots)
    {Q : Addr → Pre} (hq : Q s.heap.size dd acts (s.pushCell (mm_row comp m.toNatClampNeg))) : wp (Op.multianewarray.make comp [m]) Q E e dd acts s := by
  rw [Op.multianewarray.make]
  simp only [wp_bind', W.ite, hm, if_false, wp_pure', W.theClass, hkc, hkindc, Option.some.injEq, exists_eq_left']
  exact mm_new hkc hkindc hl hh rfl rfl h1 h2 hq
theorem mm_make2 {c comp cc : ClassId} {k kc : Class} {n m : Int32} {N M : Nat} (hN : n.toNatClampNeg = N) (hM : m.toNatClampNeg = M) (hk : s.vm.classes[c]? = some k) (hkind : k.kind = .array comp (.array .int))
    (hkc : s.vm.classes[comp]? = some kc) (hkindc : kc.kind = .array cc .int) (hn : ¬ n < 0) (hm : ¬ m < 0)
    (hl1 : ¬ N > e.platform.arrayLengthLimit) (hh1 : ¬ N * componentBytes (.array .int) > e.platform.maxHeapBytes) (hl2 : ¬ M > e.platform.arrayLengthLimit) (hh2 : ¬ M * componentBytes .int > e.platform.maxHeapBytes)
    (hc : s.heap.size + 1 + N ≤ e.platform.maxCells) (hs : s.slotsUsed + N + N * M ≤ e.platform.maxSlots)
    {Q : Addr → Pre} (hq : ∀ d' acts', Q s.heap.size d' acts' (mm_st s c comp N M N)) : wp (Op.multianewarray.make c [n, m]) Q E e dd acts s := by
  subst hN; subst hM
  have hfind : ([m].find? (· < 0)) = none := by simp [hm]
  rw [Op.multianewarray.make]
  simp only [wp_bind', W.ite, hn, if_false, wp_pure', W.theClass, hk, hkind, Option.some.injEq, exists_eq_left']
  refine mm_new hk hkind hl1 hh1 rfl rfl (by omega) (by have := Nat.zero_le (n.toNatClampNeg * m.toNatClampNeg); omega) ?_
  simp only [hfind]
  rw [ite_self, wp_bind', Std.Legacy.Range.forIn_eq_forIn_range']
  have hsz : ([:n.toNatClampNeg] : Std.Legacy.Range).size = n.toNatClampNeg := by simp [Std.Legacy.Range.size]
  rw [hsz]
  have e0 : s.pushCell (arrV c n.toNatClampNeg (fun _ => .null)) = mm_st s c comp n.toNatClampNeg m.toNatClampNeg 0 := by
    show _ = s.pushCell (mm_out _ _ _ 0)
    unfold mm_out
    simp
  rw [e0]
  show wp (forIn (List.range' 0 n.toNatClampNeg 1) PUnit.unit _) _ E e dd acts _
  refine wp_forIn_inv (fun rest s' => ∃ i, i ≤ n.toNatClampNeg ∧ rest = List.range' i (n.toNatClampNeg - i) ∧ s' = mm_st s c comp n.toNatClampNeg m.toNatClampNeg i) _ _ ⟨0, Nat.zero_le _, rfl, rfl⟩ ?_ ?_
  · rintro y rest s' d' acts' Q' ⟨i, hi, hl, rfl⟩ hnext
    have hlt : i < n.toNatClampNeg := by
      by_cases h : i < n.toNatClampNeg
      · exact h
      · rw [show n.toNatClampNeg - i = 0 by omega] at hl; simp at hl
    rw [show n.toNatClampNeg - i = (n.toNatClampNeg - (i + 1)) + 1 by omega, List.range'_succ] at hl
    obtain ⟨h1, hrest⟩ := List.cons.inj hl
    subst h1
    obtain ⟨f1, f2, f3, f4⟩ := mm_facts s c comp n.toNatClampNeg m.toNatClampNeg y
    have o3 : (mm_out c n.toNatClampNeg s.heap.size y).slots.size = n.toNatClampNeg := arrV_size _ _ _
    have hmul : y * m.toNatClampNeg + m.toNatClampNeg ≤ n.toNatClampNeg * m.toNatClampNeg := by
      have := Nat.mul_le_mul_right m.toNatClampNeg (show y + 1 ≤ n.toNatClampNeg from hlt)
      rw [Nat.succ_mul] at this; exact this
    simp only [wp_bind']
    refine mm_make1 (by rw [f3]; exact hkc) hkindc hm hl2 hh2 (by rw [f1]; omega) (by rw [f4]; omega) ?_
    have hlt0 : s.heap.size < (mm_st s c comp n.toNatClampNeg m.toNatClampNeg y).heap.size := by rw [f1]; omega
    simp only [wp_bind', W.writeLoc, wp_pure']
    refine ⟨mm_out c n.toNatClampNeg s.heap.size y, by rw [State.heap_pushCell_of_lt (h := hlt0)]; exact f2, by simp [mm_out, arrV], by rw [o3]; exact hlt, ?_, hnext _ _ _ ⟨y + 1, hlt, hrest, ?_⟩⟩
    · show State.fitsSlot _ c .none _ _ = true
      simp [State.fitsSlot, State.slotType?, f3, hk, hkind]
      rfl
    · rw [f1, mm_out_set]; rfl
  · rintro s' d' acts' ⟨i, hi, hl, rfl⟩
    have hiN : i = n.toNatClampNeg := by
      by_cases h : i < n.toNatClampNeg
      · rw [show n.toNatClampNeg - i = (n.toNatClampNeg - (i + 1)) + 1 by omega, List.range'_succ] at hl; cases hl
      · omega
    subst hiN
    simp only [wp_pure']
    exact hq _ _
end MMW
section MMS
variable {p : Program} {l : Launch} {e : Env} {R : Room} {s : State} {m : MethodId} {args : Array Value} {below : List Frame} {meth : Method} {c : Code} {T : State} {locs : List Loc} {cells slots : Nat}
theorem mm_stand (X : Stand p l e R s m args below meth c T locs cells slots) (cA comp : ClassId) (N M : Nat) :
    ∀ i, Stand p l e R s m args below meth c (mm_st T cA comp N M i) (locs ++ (List.range i).map fun j => ⟨T.heap.size, j⟩) (cells + 1 + i) (slots + N + i * M)
  | 0 => by
    have h := X.pushed (mm_out cA N T.heap.size 0)
    rw [show (mm_out cA N T.heap.size 0).slots.size = N from arrV_size _ _ _] at h
    simpa [mm_st] using h
  | i + 1 => by
    have Xi := mm_stand X cA comp N M i
    obtain ⟨f1, f2, f3, f4⟩ := mm_facts T cA comp N M i
    have hlt0 : T.heap.size < (mm_st T cA comp N M i).heap.size := by rw [f1]; omega
    have hcell : ((mm_st T cA comp N M i).pushCell (mm_row comp M)).heap[T.heap.size]? = some (mm_out cA N T.heap.size i) := by rw [State.heap_pushCell_of_lt (h := hlt0)]; exact f2
    have h := (Xi.pushed (mm_row comp M)).stored hcell i (.ref (T.heap.size + 1 + i))
    rw [mm_out_set, show (mm_row comp M).slots.size = M from arrV_size _ _ _] at h
    have e2 : (locs ++ (List.range (i + 1)).map fun j => (⟨T.heap.size, j⟩ : Loc)) = (locs ++ (List.range i).map fun j => (⟨T.heap.size, j⟩ : Loc)) ++ [⟨T.heap.size, i⟩] := by simp [List.range_succ, List.append_assoc]
    have e3 : slots + N + (i + 1) * M = slots + N + i * M + M := by rw [Nat.succ_mul]; omega
    rw [e2, e3]
    exact h
end MMS
end
section
section MMX
variable {p : Program} {l : Launch} {e : Env} {R : Room} {s : State} {m : MethodId} {args : Array Value} {below : List Frame} {meth : Method} {c : Code} {H : Heap} {locs : List Loc} {cells slots : Nat} {Q : State → Prop}
set_option maxHeartbeats 1000000 in
theorem mm_W {cc : ByteArray} (hexec : p.tables.exec = Jvm.exec) (hb : c.code = cc) {own : String} {index : Nat} (hown : s.vm.findClass own = some m.cls)
    (hclink : (Cond.classLink own index ("[" ++ (FieldType.array .int).toString)).before args s = true) (hover : (Cond.arrayOver (.array .int)).before args s = true) (harr : (Cond.arrayClass .int).before args s = true)
    {pc : Nat} {ls : Array Slot} {rest : List Value} {n k : Int32} {N M : Nat} (hN : n.toNatClampNeg = N) (hM : k.toNatClampNeg = M) (hn : ¬ n < 0) (hk : ¬ k < 0) (hN4 : N ≤ 100000) (hM4 : M ≤ 100000)
    (hcells : cells + (1 + N) ≤ R.cells) (hslots : slots + (N + N * M) ≤ R.slots) (hdg : decode cc pc = .ok (.multianewarray index 2, 4))
    (kk : ∀ (H' : Heap) (cA comp : ClassId), H'.size = H.size + 1 + N → H'[H.size]? = some (arrV cA N (fun j => if j < N then .ref (H.size + 1 + j) else .null)) → (∀ j, j < N → H'[H.size + 1 + j]? = some (arrV comp M (fun _ => .int 0))) → (∀ q, q < H.size → H'[q]? = H[q]?) → ArrOfT s cA (.array .int) → ArrOfT s comp .int →
      W p l e R s m args below meth c H' (locs ++ (List.range N).map fun j => ⟨H.size, j⟩) (cells + 1 + N) (slots + N + N * M) Q (F0 m (pc + 4) ls (.ref H.size :: rest))) :
    W p l e R s m args below meth c H locs cells slots Q (F0 m pc ls (.int k :: .int n :: rest)) := by
  intro T hT X
  subst hT; subst hb
  have hpl : e.platform.magicAccessors = ({} : Platform).magicAccessors := by rw [X.admits.platform]
  obtain ⟨comp, cA, kA, hcomp, -, hkA, hkindA, hnameA⟩ := arrayOverA_spec hover
  obtain ⟨comp', kC, cc, hcomp', hkC, hkindC⟩ := Cond.arrayClass_spec harr
  have ecomp : comp' = comp := Option.some.inj (hcomp'.symm.trans hcomp)
  subst ecomp
  obtain ⟨c0, hfc0, hcl⟩ := Cond.classLink_spec hown hclink e.platform hpl
  cases hnameA.symm.trans hfc0
  obtain ⟨hg₁, hwarm₁, hready₁⟩ := State.classEntry (e := e) X.warmed hcl
  generalize T.vm.noted m.cls index (.cls cA) = vm₁ at hg₁ hwarm₁ hready₁
  have hal : s.vm.Alike vm₁ := hwarm₁.alike
  obtain ⟨kA₁, hkA₁, heA⟩ := hal.2.2 _ _ hkA
  obtain ⟨kC₁, hkC₁, heC⟩ := hal.2.2 _ _ hkC
  have hkindA₁ : kA₁.kind = .array comp' (.array .int) := by rw [heA]; exact hkindA
  have hkindC₁ : kC₁.kind = .array cc .int := by rw [heC]; exact hkindC
  have X₁ := X.noted hwarm₁
  obtain ⟨hr1, hr2⟩ := X.roomAbove hcells hslots
  have XF := mm_stand X₁ cA comp' N M N
  obtain ⟨f1, f2, f3, f4⟩ := mm_facts (T.setVm vm₁) cA comp' N M N
  obtain ⟨t', a1, b1⟩ := kk (mm_st (T.setVm vm₁) cA comp' N M N).heap cA comp' f1 f2 (fun j hj => mm_rows (T.setVm vm₁) cA comp' N M N j hj) (fun q hq => mm_old (T.setVm vm₁) cA comp' N M hq N)
    (fun n z => ⟨fun k h => (by cases h), kA, hkA, comp', hkindA⟩) (fun n z => ⟨fun k h => (by cases h), kC, hkC, cc, hkindC⟩) _ rfl XF
  refine ⟨t', ?_, b1⟩
  have hl1 : ¬ N > e.platform.arrayLengthLimit := by rw [Launch.admits_arrayLengthLimit X.admits]; omega
  have hh1 : ¬ N * componentBytes (.array .int) > e.platform.maxHeapBytes := by
    rw [Launch.admits_maxHeapBytes X.admits]; show ¬ N * 4 > 536870912; omega
  have hl2 : ¬ M > e.platform.arrayLengthLimit := by rw [Launch.admits_arrayLengthLimit X.admits]; omega
  have hh2 : ¬ M * componentBytes .int > e.platform.maxHeapBytes := by rw [Launch.admits_maxHeapBytes X.admits]; show ¬ M * 4 > 536870912; omega
  jvm_step X.here [hexec, hdg]
  simp only [Op.multianewarray.sem, wp_bind', W.resolveClassAt_links (State.method?_setTop (F0 m pc ls (.int k :: .int n :: rest)) X.here.top) hg₁]
  rw [W.popN, if_neg (by decide)]
  refine ⟨F0 m pc ls (.int k :: .int n :: rest), State.topJava?_setTop' (s := T.setVm vm₁) _ X.here.top, [.int n, .int k], rest, rfl, rfl, ?_⟩
  simp only [List.mapM_cons, List.mapM_nil, wp_bind', wp_pure']
  refine mm_make2 (k := kA₁) (kc := kC₁) (comp := comp') (cc := cc) hN hM hkA₁ hkindA₁ hkC₁ hkindC₁ hn hk hl1 hh1 hl2 hh2 (by show T.heap.size + 1 + _ ≤ _; omega) (by show T.slotsUsed + _ + _ ≤ _; omega) (fun d' acts' => ?_)
  have eS : ((T.setTop (F0 m pc ls (.int k :: .int n :: rest))).setVm vm₁).setTop (F0 m pc ls rest) = (T.setVm vm₁).setTop (F0 m pc ls rest) := by
    show ((T.setVm vm₁).setTop _).setTop _ = _
    rw [State.setTop_setTop]
  rw [show ({ F0 m pc ls (.int k :: .int n :: rest) with stack := rest } : JFrame) = F0 m pc ls rest from rfl, eS, mm_top]
  simp only [wp_bind', W.mark, W.pushRef, State.topJava?_setTop' _ XF.here.top, Option.some.injEq, exists_eq_left', State.setTop_setTop, State.heap_setTop]
  intro acts
  simp [jvm, XF.here.top]
  exact a1
end MMX
def am_ms (S : am_S) (n N M : Nat) : am_S := fun b => if b = n then (2, N, fun j => if j < N then some (n + 1 + j) else none) else if n < b ∧ b ≤ n + N then (0, M, fun _ => none) else S b
def am_md (d : am_D) (n N : Nat) : am_D := fun b => if n < b ∧ b ≤ n + N then (fun _ => 0) else d b
theorem am_multi {l : Launch} {C : am_Cfg} {x : am_X} {dep bc bs pc : Nat} {mi : am_M} {L : List (Option Value)} {st : List Value} {S : am_S} {nn : Nat} {d : am_D} {Q : Option Value → am_S → Nat → am_D → Prop} {idx : Nat} {u v : Int32} (N M : Nat) (hd : decode mi.2.1 pc = .ok (.multianewarray idx 2, 4)) (hl : Cond.classLink mi.1.cls idx ("[" ++ (FieldType.array .int).toString) ∈ am_ts C) (hw : Cond.arrayClass .int ∈ am_ts C) (hw2 : Cond.arrayOver (.array .int) ∈ am_ns C) (hu : u = nI N) (hv : v = nI M) (hN : N ≤ 500) (hM : M ≤ 100000) (hn : nn + 1 + N ≤ 1000)
    (kk : am_W l C x dep bc bs mi (pc + 4) L (.ref nn :: st) (am_ms S nn N M) (nn + 1 + N) (am_md d nn N) Q) : am_W l C x dep (bc + (1 + N)) (bs + (N + N * M)) mi pc L (.int v :: .int u :: st) S nn d Q := by
  intro p e s m args below meth c H locs cells slots mc ms ls hC
  obtain ⟨⟨hx, hb, hml, hr, hlk, hnm, hown, hts, hF⟩, hH, hS, hbc, hbs, hL⟩ := hC
  subst hu; subst hv
  have hq : ∀ j, nn + j < 1000 → am_ad x (nn + j) = H.size + j := fun j hj => by rw [hF.2.2.2.2.1 _ hj, hH.2.1]; omega
  have hq0 : am_ad x nn = H.size := hq 0 (by omega)
  refine mm_W (N := N) (M := M) hx hb hown (hts _ hl) (over_moved (Vm.Alike.refl _) (hF.2.1 _ hw2)) (hts _ hw) (nI_clamp (by omega)) (nI_clamp (by omega)) (nI_pos (by omega)) (nI_pos (by omega)) (by omega) hM (by show cells + (1 + N) ≤ mc; omega) (by show slots + (N + N * M) ≤ ms; omega) hd fun H' cA comp z1 z2 z3 z4 hA hI => ?_
  have hg := kk p e s m args below meth c H' (locs ++ (List.range N).map fun j => ⟨H.size, j⟩) (cells + 1 + N) (slots + N + N * M) mc ms ls ⟨⟨hx, hb, hml, hr, hlk, hnm, hown, hts, hF⟩, ⟨fun b hb' => ?_, by rw [z1, hH.2.1]; omega, hn⟩, ⟨by have := hS.1; omega, fun q h1 h2 => (z4 q (Nat.lt_of_lt_of_le h1 hS.1)).trans (hS.2.1 q h1 h2), fun q hq' => ?_⟩, by omega, by omega, hL⟩
  · rw [List.map_cons] at hg
    have e1 : am_up (am_ad x) (.ref nn) = .ref H.size := by show Value.ref (am_ad x nn) = _; rw [hq0]
    rw [e1] at hg
    exact hg
  · by_cases e1 : b = nn
    · subst e1
      refine ⟨fun z => by omega, fun _ => (am_own_2 (by unfold am_ms; rw [if_pos rfl])).mpr ⟨cA, ?_, hA⟩⟩
      rw [hq0, z2]
      unfold am_ms
      rw [if_pos rfl]
      congr 2
      funext j
      dsimp only
      by_cases hj : j < N
      · rw [if_pos hj, if_pos hj]
        show Value.ref (H.size + 1 + j) = Value.ref (am_ad x (b + 1 + j))
        rw [show b + 1 + j = b + (1 + j) by omega, hq (1 + j) (by omega), show H.size + 1 + j = H.size + (1 + j) by omega]
      · rw [if_neg hj, if_neg hj]; rfl
    · by_cases e2 : nn < b ∧ b ≤ nn + N
      · have e3 : am_ms S nn N M b = (0, M, fun _ => none) := by unfold am_ms; rw [if_neg e1, if_pos e2]
        have e4 : am_md d nn N b = fun _ => 0 := by unfold am_md; rw [if_pos e2]
        refine ⟨fun z => by omega, fun _ => (am_own_0 (by rw [e3])).mpr ⟨comp, ?_, hI⟩⟩
        rw [e3, e4]
        obtain ⟨j, rfl⟩ : ∃ j, b = nn + (1 + j) := ⟨b - nn - 1, by omega⟩
        rw [hq (1 + j) (by omega), show H.size + (1 + j) = H.size + 1 + j by omega]
        exact z3 j (by omega)
      · have e3 : am_ms S nn N M b = S b := by unfold am_ms; rw [if_neg e1, if_neg e2]
        have e4 : am_md d nn N b = d b := by unfold am_md; rw [if_neg e2]
        have hb2 : b < nn ∨ (1000 ≤ b ∧ b < 1002) := by omega
        refine ((hH.1 b hb2).kept (z4 _ ?_)).same e3 e4
        rcases hb2 with z | z
        · rw [hF.2.2.2.2.1 b (by omega), hH.2.1]; omega
        · have := hF.2.2.2.2.2 b z.1
          rw [hH.2.1]; omega
  · rcases List.mem_append.mp hq' with h | h
    · exact hS.2.2 q h
    · obtain ⟨j, -, rfl⟩ := List.mem_map.mp h
      show am_sz x ≤ H.size
      rw [hH.2.1]; omega
end
section
/-! ints by their numbers -/
def zI (z : Int) : Int32 := Int32.ofInt z
theorem zI_add (a b : Int) : zI a + zI b = zI (a + b) := (Int32.ofInt_add a b).symm
theorem zI_sub (a b : Int) : zI a - zI b = zI (a - b) := (Int32.ofInt_sub a b).symm
theorem zI_mul (a b : Int) : zI a * zI b = zI (a * b) := (Int32.ofInt_mul a b).symm
theorem zI_neg (a : Int) : -zI a = zI (-a) := (Int32.ofInt_neg a).symm
theorem zI_toInt {a : Int} (h1 : -2147483648 ≤ a) (h2 : a < 2147483648) : (zI a).toInt = a := Int32.toInt_ofInt_of_le (by omega) (by omega)
theorem zI_of (y : Int32) : y = zI y.toInt := (Int32.ofInt_toInt y).symm
theorem zI_in (y : Int32) : -2147483648 ≤ y.toInt ∧ y.toInt < 2147483648 := ⟨by have := Int32.le_toInt y; omega, by have := Int32.toInt_lt y; omega⟩
theorem nI_zI (n : Nat) : nI n = zI n := Int32.ofInt_eq_ofNat.symm
theorem zI_le {a b : Int} (h1 : -2147483648 ≤ a) (h2 : a < 2147483648) (h3 : -2147483648 ≤ b) (h4 : b < 2147483648) : zI a ≤ zI b ↔ a ≤ b := by
  rw [Int32.le_iff_toInt_le, zI_toInt h1 h2, zI_toInt h3 h4]
theorem zI_lt {a b : Int} (h1 : -2147483648 ≤ a) (h2 : a < 2147483648) (h3 : -2147483648 ≤ b) (h4 : b < 2147483648) : zI a < zI b ↔ a < b := by
  rw [Int32.lt_iff_toInt_lt, zI_toInt h1 h2, zI_toInt h3 h4]
theorem zI_eq {a b : Int} (h1 : -2147483648 ≤ a) (h2 : a < 2147483648) (h3 : -2147483648 ≤ b) (h4 : b < 2147483648) : zI a = zI b ↔ a = b := by
  rw [← Int32.toInt_inj, zI_toInt h1 h2, zI_toInt h3 h4]
theorem zI_div {a b : Int} (h1 : 0 ≤ a) (h2 : a < 2147483648) (h3 : 0 < b) (h4 : b < 2147483648) : zI a / zI b = zI (a / b) := by
  have h5 : 0 ≤ a / b := Int.ediv_nonneg h1 (by omega)
  have h6 : a / b ≤ a := Int.ediv_le_self b h1
  rw [← Int32.toInt_inj, Int32.toInt_div_of_ne_right _ _ (fun h => by
    have := congrArg Int32.toInt h
    rw [zI_toInt (by omega) h4] at this
    have e : (-1 : Int32).toInt = -1 := by decide
    rw [e] at this; omega), zI_toInt (by omega) h2, zI_toInt (by omega) h4, zI_toInt (by omega) (by omega), Int.tdiv_eq_ediv_of_nonneg h1]
theorem zI_rem {a b : Int} (h1 : 0 ≤ a) (h2 : a < 2147483648) (h3 : 0 < b) (h4 : b < 2147483648) : zI a - zI a / zI b * zI b = zI (a % b) := by
  rw [zI_div h1 h2 h3 h4, zI_mul, zI_sub, Int.emod_def, Int.mul_comm]
theorem zI_lit (n : Nat) : (OfNat.ofNat n : Int32) = zI n := nI_zI n
end
section
def k_F0 : u_T := fun k => match k with
  | 0 => ("BundleAuction", "cashOf", "[I", true)
  | 1 => ("BundleAuction", "escrowOf", "[I", true)
  | 2 => ("BundleAuction", "reserveOf", "[I", true)
  | 3 => ("BundleAuction", "ownerOf", "[I", true)
  | 4 => ("BundleAuction", "paidBy", "[I", true)
  | 5 => ("BundleAuction", "partsOf", "[I", true)
  | 6 => ("BundleAuction", "worthOf", "[[I", true)
  | 7 => ("BundleAuction", "reader", "LBundleAuction$BidReader;", true)
  | 8 => ("BundleAuction", "sharing", "LBundleAuction$Sharing;", true)
  | 9 => ("BundleAuction", "sellerAccount", "I", false)
  | _ => ("BundleAuction", "closed", "Z", false)
def k_t0 : Nat → FieldType := fun k => match k with
  | 0 => .array .int
  | 1 => .array .int
  | 2 => .array .int
  | 3 => .array .int
  | 4 => .array .int
  | 5 => .array .int
  | 6 => .array (.array .int)
  | 7 => .object "BundleAuction$BidReader"
  | 8 => .object "BundleAuction$Sharing"
  | 9 => .int
  | _ => .boolean
def k_F1 : u_T := fun k => match k with
  | 0 => ("BundleAuction$BidReader", "text", "[C", true)
  | 1 => ("BundleAuction$BidReader", "length", "I", false)
  | 2 => ("BundleAuction$BidReader", "place", "I", false)
  | 3 => ("BundleAuction$BidReader", "number", "I", false)
  | 4 => ("BundleAuction$BidReader", "partCount", "I", false)
  | 5 => ("BundleAuction$BidReader", "value", "[I", true)
  | 6 => ("BundleAuction$BidReader", "choices", "[[I", true)
  | _ => ("BundleAuction$BidReader", "sums", "[[I", true)
def k_t1 : Nat → FieldType := fun k => match k with
  | 0 => .array .char
  | 1 => .int
  | 2 => .int
  | 3 => .int
  | 4 => .int
  | 5 => .array .int
  | 6 => .array (.array .int)
  | _ => .array (.array .int)
def k_F2 : u_T := fun k => match k with
  | 0 => ("BundleAuction$Sharing", "setRank", "[I", true)
  | 1 => ("BundleAuction$Sharing", "total", "[I", true)
  | _ => ("BundleAuction$Sharing", "own", "[I", true)
def k_t2 : Nat → FieldType := fun k => match k with
  | 0 => .array .int
  | 1 => .array .int
  | _ => .array .int
def k_F3 : u_T := fun k => match k with
  | 0 => ("BundleAuctionModel", "closed", "Z", false)
  | 1 => ("BundleAuctionModel", "money", "[I", false)
  | 2 => ("BundleAuctionModel", "behind", "[I", false)
  | 3 => ("BundleAuctionModel", "account", "I", false)
  | 4 => ("BundleAuctionModel", "reserves", "[I", false)
  | 5 => ("BundleAuctionModel", "length", "I", false)
  | 6 => ("BundleAuctionModel", "text", "[I", false)
  | 7 => ("BundleAuctionModel", "bid", "[I", false)
  | 8 => ("BundleAuctionModel", "size", "[I", false)
  | 9 => ("BundleAuctionModel", "table", "[I", false)
  | 10 => ("BundleAuctionModel", "tables", "I", false)
  | 11 => ("BundleAuctionModel", "sum", "[I", false)
  | 12 => ("BundleAuctionModel", "wait", "[I", false)
  | 13 => ("BundleAuctionModel", "waits", "I", false)
  | 14 => ("BundleAuctionModel", "at", "I", false)
  | 15 => ("BundleAuctionModel", "found", "I", false)
  | 16 => ("BundleAuctionModel", "gets", "[I", false)
  | 17 => ("BundleAuctionModel", "sold", "[I", false)
  | _ => ("BundleAuctionModel", "price", "[I", false)
def k_t3 : Nat → FieldType := fun k => match k with
  | 0 => .boolean
  | 1 => .array .int
  | 2 => .array .int
  | 3 => .int
  | 4 => .array .int
  | 5 => .int
  | 6 => .array .int
  | 7 => .array .int
  | 8 => .array .int
  | 9 => .array .int
  | 10 => .int
  | 11 => .array .int
  | 12 => .array .int
  | 13 => .int
  | 14 => .int
  | 15 => .int
  | 16 => .array .int
  | 17 => .array .int
  | _ => .array .int
def k_rf : Nat → Nat → Bool := fun ci k => match ci with
  | 0 => [0, 1, 2, 3, 4, 5, 6, 7, 8].contains k
  | 1 => [0, 5, 6, 7].contains k
  | 2 => [0, 1, 2].contains k
  | _ => [1, 2, 4, 6, 7, 8, 9, 11, 12, 16, 17, 18].contains k
abbrev k_r0 : vw_C := ("BundleAuction", k_F0, 11)
abbrev k_r1 : vw_C := ("BundleAuction$BidReader", k_F1, 8)
abbrev k_r2 : vw_C := ("BundleAuction$Sharing", k_F2, 3)
abbrev k_r3 : vw_C := ("BundleAuctionModel", k_F3, 19)
abbrev k_cl : List vw_C := [k_r0, k_r1, k_r2, k_r3]
def am_isN : Cond → Bool
  | .fieldLinkNest _ _ _ _ _ _ => true
  | .methodLinkNest _ _ _ _ => true
  | .arrayOver (.array _) => true
  | _ => false
def K0 : am_Cfg := (k_cl, k_rf, lw_tbl.filter goodWord, lw_tbl.filter am_isN, [("BundleAuction$Sharing", "ITEM_RANK", "[I", 1001)])
theorem k_ok : am_ok K0 := by
  refine ⟨fun w hw => good_of_word (List.mem_filter.mp hw).2, fun w hw => ?_⟩
  have h := (List.mem_filter.mp hw).2
  unfold am_isN at h
  split at h
  · exact ⟨am_nestF _ _ _ _ _ _, fun u U h hz => va_Nw.same rfl h hz⟩
  · exact ⟨am_nestM _ _ _ _, fun u U h hz => va_Nw.same rfl h hz⟩
  · exact ⟨fun s U hW hz => over_moved hW.alike hz, fun u U h hz => over_moved (h ▸ Vm.Alike.refl _) hz⟩
  · cases h
theorem tw (i : Nat) {w : Cond} (h : tables_1[i]? = some w) (hg : goodWord w = true) : w ∈ am_ts K0 := List.mem_filter.mpr ⟨List.mem_append_right _ (List.mem_of_getElem? h), hg⟩
theorem tn (i : Nat) {w : Cond} (h : tables_1[i]? = some w) (hg : am_isN w = true) : w ∈ am_ns K0 := List.mem_filter.mpr ⟨List.mem_append_right _ (List.mem_of_getElem? h), hg⟩
theorem tp (i : Nat) {w : Cond} (h : (k2_sels lw_privs)[i]? = some w) (hg : goodWord w = true) : w ∈ am_ts K0 := List.mem_filter.mpr ⟨List.mem_append_left _ (List.mem_of_getElem? h), hg⟩
theorem am_at {b : ByteArray} {cd : List (Nat × Instr × Nat)} (h : ∀ q ∈ cd, decode b q.1 = .ok (q.2.1, q.2.2)) (i : Nat) {pc n : Nat} {ins : Instr} (hq : cd[i]? = some (pc, ins, n)) : decode b pc = .ok (ins, n) := h (pc, ins, n) (List.mem_of_getElem? hq)
theorem k_ok0 : am_clok K0 k_r0 k_t0 := by
  refine ⟨fun w hw => ?_, by decide +kernel, by decide +kernel⟩
  obtain ⟨k, hk, rfl⟩ := List.mem_map.mp hw
  have hk : k < 11 := List.mem_range.mp hk
  have h : k = 0 ∨ k = 1 ∨ k = 2 ∨ k = 3 ∨ k = 4 ∨ k = 5 ∨ k = 6 ∨ k = 7 ∨ k = 8 ∨ k = 9 ∨ k = 10 := by omega
  rcases h with rfl | rfl | rfl | rfl | rfl | rfl | rfl | rfl | rfl | rfl | rfl
  · exact tw 86 rfl rfl
  · exact tw 88 rfl rfl
  · exact tw 90 rfl rfl
  · exact tw 92 rfl rfl
  · exact tw 94 rfl rfl
  · exact tw 96 rfl rfl
  · exact tw 98 rfl rfl
  · exact tw 100 rfl rfl
  · exact tw 102 rfl rfl
  · exact tw 104 rfl rfl
  · exact tw 106 rfl rfl
theorem k_ok1 : am_clok K0 k_r1 k_t1 := by
  refine ⟨fun w hw => ?_, by decide +kernel, by decide +kernel⟩
  obtain ⟨k, hk, rfl⟩ := List.mem_map.mp hw
  have hk : k < 8 := List.mem_range.mp hk
  have h : k = 0 ∨ k = 1 ∨ k = 2 ∨ k = 3 ∨ k = 4 ∨ k = 5 ∨ k = 6 ∨ k = 7 := by omega
  rcases h with rfl | rfl | rfl | rfl | rfl | rfl | rfl | rfl
  · exact tw 35 rfl rfl
  · exact tw 37 rfl rfl
  · exact tw 39 rfl rfl
  · exact tw 41 rfl rfl
  · exact tw 43 rfl rfl
  · exact tw 45 rfl rfl
  · exact tw 47 rfl rfl
  · exact tw 49 rfl rfl
theorem k_ok2 : am_clok K0 k_r2 k_t2 := by
  refine ⟨fun w hw => ?_, by decide +kernel, by decide +kernel⟩
  obtain ⟨k, hk, rfl⟩ := List.mem_map.mp hw
  have hk : k < 3 := List.mem_range.mp hk
  have h : k = 0 ∨ k = 1 ∨ k = 2 := by omega
  rcases h with rfl | rfl | rfl
  · exact tw 68 rfl rfl
  · exact tw 70 rfl rfl
  · exact tw 72 rfl rfl
theorem k_ok3 : am_clok K0 k_r3 k_t3 := by
  refine ⟨fun w hw => ?_, by decide +kernel, by decide +kernel⟩
  obtain ⟨k, hk, rfl⟩ := List.mem_map.mp hw
  have hk : k < 19 := List.mem_range.mp hk
  have h : k = 0 ∨ k = 1 ∨ k = 2 ∨ k = 3 ∨ k = 4 ∨ k = 5 ∨ k = 6 ∨ k = 7 ∨ k = 8 ∨ k = 9 ∨ k = 10 ∨ k = 11 ∨ k = 12 ∨ k = 13 ∨ k = 14 ∨ k = 15 ∨ k = 16 ∨ k = 17 ∨ k = 18 := by omega
  rcases h with rfl | rfl | rfl | rfl | rfl | rfl | rfl | rfl | rfl | rfl | rfl | rfl | rfl | rfl | rfl | rfl | rfl | rfl | rfl
  · exact tw 325 rfl rfl
  · exact tw 327 rfl rfl
  · exact tw 329 rfl rfl
  · exact tw 331 rfl rfl
  · exact tw 333 rfl rfl
  · exact tw 335 rfl rfl
  · exact tw 337 rfl rfl
  · exact tw 339 rfl rfl
  · exact tw 341 rfl rfl
  · exact tw 343 rfl rfl
  · exact tw 345 rfl rfl
  · exact tw 347 rfl rfl
  · exact tw 349 rfl rfl
  · exact tw 351 rfl rfl
  · exact tw 353 rfl rfl
  · exact tw 355 rfl rfl
  · exact tw 357 rfl rfl
  · exact tw 359 rfl rfl
  · exact tw 361 rfl rfl
end
section
def m_A_init : am_M := (⟨"BundleAuction", "<init>", "()V"⟩, prog_1_method_1_code, 1, none)
def cd_A_init : List (Nat × Instr × Nat) := [(0, .aload_n 0, 1), (1, .invokespecial 1, 3), (4, .aload_n 0, 1), (5, .iconst 5, 1), (6, .newarray .int, 2), (8, .putfield 9, 3), (11, .aload_n 0, 1), (12, .iconst 5, 1), (13, .newarray .int, 2), (15, .putfield 13, 3), (18, .aload_n 0, 1), (19, .bipush 6, 2), (21, .newarray .int, 2), (23, .putfield 16, 3), (26, .aload_n 0, 1), (27, .bipush 6, 2), (29, .newarray .int, 2), (31, .putfield 19, 3), (34, .aload_n 0, 1), (35, .iconst 5, 1), (36, .newarray .int, 2), (38, .putfield 22, 3), (41, .aload_n 0, 1), (42, .iconst 5, 1), (43, .newarray .int, 2), (45, .putfield 25, 3), (48, .aload_n 0, 1), (49, .iconst 5, 1), (50, .bipush 64, 2), (52, .multianewarray 28 2, 4), (56, .putfield 30, 3), (59, .aload_n 0, 1), (60, .new 33, 3), (63, .dup, 1), (64, .invokespecial 35, 3), (67, .putfield 36, 3), (70, .aload_n 0, 1), (71, .new 40, 3), (74, .dup, 1), (75, .invokespecial 42, 3), (78, .putfield 43, 3), (81, .aload_n 0, 1), (82, .iconst 0, 1), (83, .putfield 47, 3), (86, .aload_n 0, 1), (87, .iconst 0, 1), (88, .putfield 51, 3), (91, .return_, 1)]
set_option maxRecDepth 100000 in
theorem hc_A_init : ∀ q ∈ cd_A_init, decode m_A_init.2.1 q.1 = .ok (q.2.1, q.2.2) := by decide +kernel
theorem g_A_init : am_good K0 m_A_init 0 := ⟨tw 12 rfl rfl, tw 1 rfl rfl, by decide +kernel, by decide⟩
def m_B_init : am_M := (⟨"BundleAuction$BidReader", "<init>", "()V"⟩, prog_2_method_1_code, 1, none)
def cd_B_init : List (Nat × Instr × Nat) := [(0, .aload_n 0, 1), (1, .invokespecial 3, 3), (4, .aload_n 0, 1), (5, .bipush 40, 2), (7, .newarray .char, 2), (9, .putfield 11, 3), (12, .aload_n 0, 1), (13, .iconst 0, 1), (14, .putfield 15, 3), (17, .aload_n 0, 1), (18, .iconst 0, 1), (19, .putfield 19, 3), (22, .aload_n 0, 1), (23, .iconst 0, 1), (24, .putfield 22, 3), (27, .aload_n 0, 1), (28, .iconst 0, 1), (29, .putfield 25, 3), (32, .aload_n 0, 1), (33, .bipush 64, 2), (35, .newarray .int, 2), (37, .putfield 28, 3), (40, .aload_n 0, 1), (41, .bipush 9, 2), (43, .bipush 64, 2), (45, .multianewarray 32 2, 4), (49, .putfield 34, 3), (52, .aload_n 0, 1), (53, .bipush 9, 2), (55, .bipush 64, 2), (57, .multianewarray 32 2, 4), (61, .putfield 37, 3), (64, .return_, 1)]
set_option maxRecDepth 100000 in
theorem hc_B_init : ∀ q ∈ cd_B_init, decode m_B_init.2.1 q.1 = .ok (q.2.1, q.2.2) := by decide +kernel
theorem g_B_init : am_good K0 m_B_init 0 := ⟨tw 22 rfl rfl, tw 2 rfl rfl, by decide +kernel, by decide⟩
def m_S_init : am_M := (⟨"BundleAuction$Sharing", "<init>", "()V"⟩, prog_3_method_1_code, 2, none)
def cd_S_init : List (Nat × Instr × Nat) := [(0, .aload_n 0, 1), (1, .invokespecial 3, 3), (4, .aload_n 0, 1), (5, .bipush 64, 2), (7, .newarray .int, 2), (9, .putfield 9, 3), (12, .aload_n 0, 1), (13, .bipush 64, 2), (15, .newarray .int, 2), (17, .putfield 15, 3), (20, .aload_n 0, 1), (21, .bipush 64, 2), (23, .newarray .int, 2), (25, .putfield 18, 3), (28, .iconst 0, 1), (29, .istore_n 1, 1), (30, .iload_n 1, 1), (31, .bipush 64, 2), (33, .if_icmp .ge 22, 3), (36, .aload_n 0, 1), (37, .getfield 9, 3), (40, .iload_n 1, 1), (41, .getstatic 21, 3), (44, .iload_n 1, 1), (45, .invokestatic 24, 3), (48, .iastore, 1), (49, .iinc 1 1, 3), (52, .goto (-22), 3), (55, .return_, 1)]
set_option maxRecDepth 100000 in
theorem hc_S_init : ∀ q ∈ cd_S_init, decode m_S_init.2.1 q.1 = .ok (q.2.1, q.2.2) := by decide +kernel
theorem g_S_init : am_good K0 m_S_init 0 := ⟨tw 58 rfl rfl, tw 3 rfl rfl, by decide +kernel, by decide⟩
def m_S_sumOver : am_M := (⟨"BundleAuction$Sharing", "sumOver", "([II)I"⟩, prog_3_method_6_code, 4, some .int)
def cd_S_sumOver : List (Nat × Instr × Nat) := [(0, .iconst 0, 1), (1, .istore_n 2, 1), (2, .iconst 0, 1), (3, .istore_n 3, 1), (4, .iload_n 3, 1), (5, .bipush 6, 2), (7, .if_icmp .ge 23, 3), (10, .iload_n 1, 1), (11, .iconst 1, 1), (12, .iload_n 3, 1), (13, .ishl, 1), (14, .iand, 1), (15, .ifCond .eq 9, 3), (18, .iload_n 2, 1), (19, .aload_n 0, 1), (20, .iload_n 3, 1), (21, .iaload, 1), (22, .iadd, 1), (23, .istore_n 2, 1), (24, .iinc 3 1, 3), (27, .goto (-23), 3), (30, .iload_n 2, 1), (31, .ireturn, 1)]
set_option maxRecDepth 100000 in
theorem hc_S_sumOver : ∀ q ∈ cd_S_sumOver, decode m_S_sumOver.2.1 q.1 = .ok (q.2.1, q.2.2) := by decide +kernel
theorem g_S_sumOver : am_good K0 m_S_sumOver 2 := ⟨tw 64 rfl rfl, tw 3 rfl rfl, by decide +kernel, by decide⟩
def m_A_fund : am_M := (⟨"BundleAuction", "fund", "(II)Z"⟩, prog_1_method_2_code, 3, some .boolean)
def cd_A_fund : List (Nat × Instr × Nat) := [(0, .iload_n 1, 1), (1, .invokestatic 55, 3), (4, .ifCond .eq 14, 3), (7, .iload_n 2, 1), (8, .iconst 1, 1), (9, .if_icmp .lt 9, 3), (12, .iload_n 2, 1), (13, .ldc 59, 2), (15, .if_icmp .le 5, 3), (18, .iconst 0, 1), (19, .ireturn, 1), (20, .aload_n 0, 1), (21, .getfield 9, 3), (24, .iload_n 1, 1), (25, .iaload, 1), (26, .aload_n 0, 1), (27, .getfield 13, 3), (30, .iload_n 1, 1), (31, .iaload, 1), (32, .iadd, 1), (33, .iload_n 2, 1), (34, .iadd, 1), (35, .ldc 60, 2), (37, .if_icmp .le 5, 3), (40, .iconst 0, 1), (41, .ireturn, 1), (42, .aload_n 0, 1), (43, .getfield 9, 3), (46, .iload_n 1, 1), (47, .dup2, 1), (48, .iaload, 1), (49, .iload_n 2, 1), (50, .iadd, 1), (51, .iastore, 1), (52, .iconst 1, 1), (53, .ireturn, 1)]
set_option maxRecDepth 100000 in
theorem hc_A_fund : ∀ q ∈ cd_A_fund, decode m_A_fund.2.1 q.1 = .ok (q.2.1, q.2.2) := by decide +kernel
theorem g_A_fund : am_good K0 m_A_fund 2 := ⟨tw 112 rfl rfl, tw 1 rfl rfl, by decide +kernel, by decide⟩
def m_A_isBidder : am_M := (⟨"BundleAuction", "isBidder", "(I)Z"⟩, prog_1_method_19_code, 1, some .boolean)
def cd_A_isBidder : List (Nat × Instr × Nat) := [(0, .iload_n 0, 1), (1, .ifCond .lt 12, 3), (4, .iload_n 0, 1), (5, .iconst 5, 1), (6, .if_icmp .ge 7, 3), (9, .iconst 1, 1), (10, .goto 4, 3), (13, .iconst 0, 1), (14, .ireturn, 1)]
set_option maxRecDepth 100000 in
theorem hc_A_isBidder : ∀ q ∈ cd_A_isBidder, decode m_A_isBidder.2.1 q.1 = .ok (q.2.1, q.2.2) := by decide +kernel
theorem g_A_isBidder : am_good K0 m_A_isBidder 1 := ⟨tw 115 rfl rfl, tw 1 rfl rfl, by decide +kernel, by decide⟩
def m_A_deposit : am_M := (⟨"BundleAuction", "deposit", "(II)Z"⟩, prog_1_method_3_code, 3, some .boolean)
def cd_A_deposit : List (Nat × Instr × Nat) := [(0, .aload_n 0, 1), (1, .getfield 51, 3), (4, .ifCond .ne 25, 3), (7, .iload_n 1, 1), (8, .invokestatic 55, 3), (11, .ifCond .eq 18, 3), (14, .iload_n 2, 1), (15, .iconst 1, 1), (16, .if_icmp .lt 13, 3), (19, .aload_n 0, 1), (20, .getfield 9, 3), (23, .iload_n 1, 1), (24, .iaload, 1), (25, .iload_n 2, 1), (26, .if_icmp .ge 5, 3), (29, .iconst 0, 1), (30, .ireturn, 1), (31, .aload_n 0, 1), (32, .getfield 9, 3), (35, .iload_n 1, 1), (36, .dup2, 1), (37, .iaload, 1), (38, .iload_n 2, 1), (39, .isub, 1), (40, .iastore, 1), (41, .aload_n 0, 1), (42, .getfield 13, 3), (45, .iload_n 1, 1), (46, .dup2, 1), (47, .iaload, 1), (48, .iload_n 2, 1), (49, .iadd, 1), (50, .iastore, 1), (51, .iconst 1, 1), (52, .ireturn, 1)]
set_option maxRecDepth 100000 in
theorem hc_A_deposit : ∀ q ∈ cd_A_deposit, decode m_A_deposit.2.1 q.1 = .ok (q.2.1, q.2.2) := by decide +kernel
theorem g_A_deposit : am_good K0 m_A_deposit 2 := ⟨tw 121 rfl rfl, tw 1 rfl rfl, by decide +kernel, by decide⟩
def m_A_withdraw : am_M := (⟨"BundleAuction", "withdraw", "(I)Z"⟩, prog_1_method_4_code, 2, some .boolean)
def cd_A_withdraw : List (Nat × Instr × Nat) := [(0, .aload_n 0, 1), (1, .getfield 51, 3), (4, .ifCond .ne 10, 3), (7, .iload_n 1, 1), (8, .invokestatic 55, 3), (11, .ifCond .ne 5, 3), (14, .iconst 0, 1), (15, .ireturn, 1), (16, .aload_n 0, 1), (17, .iload_n 1, 1), (18, .invokevirtual 61, 3), (21, .aload_n 0, 1), (22, .iload_n 1, 1), (23, .invokevirtual 65, 3), (26, .iconst 1, 1), (27, .ireturn, 1)]
set_option maxRecDepth 100000 in
theorem hc_A_withdraw : ∀ q ∈ cd_A_withdraw, decode m_A_withdraw.2.1 q.1 = .ok (q.2.1, q.2.2) := by decide +kernel
theorem g_A_withdraw : am_good K0 m_A_withdraw 1 := ⟨tw 125 rfl rfl, tw 1 rfl rfl, by decide +kernel, by decide⟩
def m_A_dropBid : am_M := (⟨"BundleAuction", "dropBid", "(I)V"⟩, prog_1_method_21_code, 2, none)
def cd_A_dropBid : List (Nat × Instr × Nat) := [(0, .aload_n 0, 1), (1, .getfield 30, 3), (4, .iload_n 1, 1), (5, .aaload, 1), (6, .iconst 0, 1), (7, .invokestatic 110, 3), (10, .aload_n 0, 1), (11, .getfield 25, 3), (14, .iload_n 1, 1), (15, .iconst 0, 1), (16, .iastore, 1), (17, .return_, 1)]
set_option maxRecDepth 100000 in
theorem hc_A_dropBid : ∀ q ∈ cd_A_dropBid, decode m_A_dropBid.2.1 q.1 = .ok (q.2.1, q.2.2) := by decide +kernel
theorem g_A_dropBid : am_good K0 m_A_dropBid 1 := ⟨tw 129 rfl rfl, tw 1 rfl rfl, by decide +kernel, by decide⟩
def m_J_fill : am_M := (⟨"java/util/Arrays", "fill", "([II)V"⟩, prog_8_method_103_code, 4, none)
def cd_J_fill : List (Nat × Instr × Nat) := [(0, .iconst 0, 1), (1, .istore_n 2, 1), (2, .aload_n 0, 1), (3, .arraylength, 1), (4, .istore_n 3, 1), (5, .iload_n 2, 1), (6, .iload_n 3, 1), (7, .if_icmp .ge 13, 3), (10, .aload_n 0, 1), (11, .iload_n 2, 1), (12, .iload_n 1, 1), (13, .iastore, 1), (14, .iinc 2 1, 3), (17, .goto (-12), 3), (20, .return_, 1)]
set_option maxRecDepth 100000 in
theorem hc_J_fill : ∀ q ∈ cd_J_fill, decode m_J_fill.2.1 q.1 = .ok (q.2.1, q.2.2) := by decide +kernel
theorem g_J_fill : am_good K0 m_J_fill 2 := ⟨tw 132 rfl rfl, tw 5 rfl rfl, by decide +kernel, by decide⟩
def m_A_giveBack : am_M := (⟨"BundleAuction", "giveBack", "(I)V"⟩, prog_1_method_22_code, 2, none)
def cd_A_giveBack : List (Nat × Instr × Nat) := [(0, .aload_n 0, 1), (1, .getfield 9, 3), (4, .iload_n 1, 1), (5, .dup2, 1), (6, .iaload, 1), (7, .aload_n 0, 1), (8, .getfield 13, 3), (11, .iload_n 1, 1), (12, .iaload, 1), (13, .iadd, 1), (14, .iastore, 1), (15, .aload_n 0, 1), (16, .getfield 13, 3), (19, .iload_n 1, 1), (20, .iconst 0, 1), (21, .iastore, 1), (22, .return_, 1)]
set_option maxRecDepth 100000 in
theorem hc_A_giveBack : ∀ q ∈ cd_A_giveBack, decode m_A_giveBack.2.1 q.1 = .ok (q.2.1, q.2.2) := by decide +kernel
theorem g_A_giveBack : am_good K0 m_A_giveBack 1 := ⟨tw 136 rfl rfl, tw 1 rfl rfl, by decide +kernel, by decide⟩
def m_A_reserve : am_M := (⟨"BundleAuction", "reserve", "(II)Z"⟩, prog_1_method_5_code, 3, some .boolean)
def cd_A_reserve : List (Nat × Instr × Nat) := [(0, .aload_n 0, 1), (1, .getfield 51, 3), (4, .ifCond .ne 21, 3), (7, .iload_n 1, 1), (8, .invokestatic 68, 3), (11, .ifCond .eq 14, 3), (14, .iload_n 2, 1), (15, .ifCond .lt 10, 3), (18, .iload_n 2, 1), (19, .sipush 999, 3), (22, .if_icmp .le 5, 3), (25, .iconst 0, 1), (26, .ireturn, 1), (27, .aload_n 0, 1), (28, .getfield 16, 3), (31, .iload_n 1, 1), (32, .iload_n 2, 1), (33, .iastore, 1), (34, .iconst 1, 1), (35, .ireturn, 1)]
set_option maxRecDepth 100000 in
theorem hc_A_reserve : ∀ q ∈ cd_A_reserve, decode m_A_reserve.2.1 q.1 = .ok (q.2.1, q.2.2) := by decide +kernel
theorem g_A_reserve : am_good K0 m_A_reserve 2 := ⟨tw 140 rfl rfl, tw 1 rfl rfl, by decide +kernel, by decide⟩
def m_A_isItem : am_M := (⟨"BundleAuction", "isItem", "(I)Z"⟩, prog_1_method_20_code, 1, some .boolean)
def cd_A_isItem : List (Nat × Instr × Nat) := [(0, .iload_n 0, 1), (1, .ifCond .lt 13, 3), (4, .iload_n 0, 1), (5, .bipush 6, 2), (7, .if_icmp .ge 7, 3), (10, .iconst 1, 1), (11, .goto 4, 3), (14, .iconst 0, 1), (15, .ireturn, 1)]
set_option maxRecDepth 100000 in
theorem hc_A_isItem : ∀ q ∈ cd_A_isItem, decode m_A_isItem.2.1 q.1 = .ok (q.2.1, q.2.2) := by decide +kernel
theorem g_A_isItem : am_good K0 m_A_isItem 1 := ⟨tw 143 rfl rfl, tw 1 rfl rfl, by decide +kernel, by decide⟩
def m_A_type : am_M := (⟨"BundleAuction", "type", "(C)Z"⟩, prog_1_method_6_code, 2, some .boolean)
def cd_A_type : List (Nat × Instr × Nat) := [(0, .aload_n 0, 1), (1, .getfield 36, 3), (4, .iload_n 1, 1), (5, .invokevirtual 71, 3), (8, .ireturn, 1)]
set_option maxRecDepth 100000 in
theorem hc_A_type : ∀ q ∈ cd_A_type, decode m_A_type.2.1 q.1 = .ok (q.2.1, q.2.2) := by decide +kernel
theorem g_A_type : am_good K0 m_A_type 1 := ⟨tw 147 rfl rfl, tw 1 rfl rfl, by decide +kernel, by decide⟩
def m_B_add : am_M := (⟨"BundleAuction$BidReader", "add", "(C)Z"⟩, prog_2_method_2_code, 2, some .boolean)
def cd_B_add : List (Nat × Instr × Nat) := [(0, .iload_n 1, 1), (1, .bipush 32, 2), (3, .if_icmp .lt 18, 3), (6, .iload_n 1, 1), (7, .bipush 126, 2), (9, .if_icmp .gt 12, 3), (12, .aload_n 0, 1), (13, .getfield 15, 3), (16, .bipush 40, 2), (18, .if_icmp .lt 5, 3), (21, .iconst 0, 1), (22, .ireturn, 1), (23, .aload_n 0, 1), (24, .getfield 11, 3), (27, .aload_n 0, 1), (28, .getfield 15, 3), (31, .iload_n 1, 1), (32, .castore, 1), (33, .aload_n 0, 1), (34, .dup, 1), (35, .getfield 15, 3), (38, .iconst 1, 1), (39, .iadd, 1), (40, .putfield 15, 3), (43, .iconst 1, 1), (44, .ireturn, 1)]
set_option maxRecDepth 100000 in
theorem hc_B_add : ∀ q ∈ cd_B_add, decode m_B_add.2.1 q.1 = .ok (q.2.1, q.2.2) := by decide +kernel
theorem g_B_add : am_good K0 m_B_add 1 := ⟨tw 151 rfl rfl, tw 2 rfl rfl, by decide +kernel, by decide⟩
def m_A_submit : am_M := (⟨"BundleAuction", "submit", "(I)I"⟩, prog_1_method_7_code, 3, some .int)
def cd_A_submit : List (Nat × Instr × Nat) := [(0, .aload_n 0, 1), (1, .getfield 51, 3), (4, .ifCond .ne 10, 3), (7, .iload_n 1, 1), (8, .invokestatic 55, 3), (11, .ifCond .ne 6, 3), (14, .bipush (-2), 2), (16, .ireturn, 1), (17, .aload_n 0, 1), (18, .getfield 36, 3), (21, .invokevirtual 75, 3), (24, .istore_n 2, 1), (25, .aload_n 0, 1), (26, .getfield 36, 3), (29, .invokevirtual 79, 3), (32, .iload_n 2, 1), (33, .iconst (-1), 1), (34, .if_icmp .eq 5, 3), (37, .iload_n 2, 1), (38, .ireturn, 1), (39, .aload_n 0, 1), (40, .getfield 36, 3), (43, .getfield 82, 3), (46, .bipush 63, 2), (48, .iaload, 1), (49, .aload_n 0, 1), (50, .getfield 13, 3), (53, .iload_n 1, 1), (54, .iaload, 1), (55, .if_icmp .le 6, 3), (58, .bipush (-3), 2), (60, .ireturn, 1), (61, .aload_n 0, 1), (62, .getfield 36, 3), (65, .getfield 82, 3), (68, .iconst 0, 1), (69, .aload_n 0, 1), (70, .getfield 30, 3), (73, .iload_n 1, 1), (74, .aaload, 1), (75, .iconst 0, 1), (76, .bipush 64, 2), (78, .invokestatic 85, 3), (81, .aload_n 0, 1), (82, .getfield 25, 3), (85, .iload_n 1, 1), (86, .aload_n 0, 1), (87, .getfield 36, 3), (90, .getfield 91, 3), (93, .iastore, 1), (94, .iconst (-1), 1), (95, .ireturn, 1)]
set_option maxRecDepth 100000 in
theorem hc_A_submit : ∀ q ∈ cd_A_submit, decode m_A_submit.2.1 q.1 = .ok (q.2.1, q.2.2) := by decide +kernel
theorem g_A_submit : am_good K0 m_A_submit 1 := ⟨tw 155 rfl rfl, tw 1 rfl rfl, by decide +kernel, by decide⟩
def m_B_read : am_M := (⟨"BundleAuction$BidReader", "read", "()I"⟩, prog_2_method_4_code, 1, some .int)
def cd_B_read : List (Nat × Instr × Nat) := [(0, .aload_n 0, 1), (1, .iconst 0, 1), (2, .putfield 19, 3), (5, .aload_n 0, 1), (6, .iconst 0, 1), (7, .putfield 25, 3), (10, .aload_n 0, 1), (11, .iconst 0, 1), (12, .invokevirtual 40, 3), (15, .ifCond .eq 18, 3), (18, .aload_n 0, 1), (19, .getfield 19, 3), (22, .aload_n 0, 1), (23, .getfield 15, 3), (26, .if_icmp .ne 7, 3), (29, .iconst (-1), 1), (30, .goto 7, 3), (33, .aload_n 0, 1), (34, .getfield 19, 3), (37, .ireturn, 1)]
set_option maxRecDepth 100000 in
theorem hc_B_read : ∀ q ∈ cd_B_read, decode m_B_read.2.1 q.1 = .ok (q.2.1, q.2.2) := by decide +kernel
theorem g_B_read : am_good K0 m_B_read 0 := ⟨tw 159 rfl rfl, tw 2 rfl rfl, by decide +kernel, by decide⟩
def m_B_readBid : am_M := (⟨"BundleAuction$BidReader", "readBid", "(I)Z"⟩, prog_2_method_5_code, 4, some .boolean)
def cd_B_readBid : List (Nat × Instr × Nat) := [(0, .aload_n 0, 1), (1, .getfield 34, 3), (4, .iload_n 1, 1), (5, .aaload, 1), (6, .astore_n 2, 1), (7, .aload_n 2, 1), (8, .iconst 0, 1), (9, .invokestatic 44, 3), (12, .iconst 0, 1), (13, .istore_n 3, 1), (14, .iload_n 3, 1), (15, .bipush 12, 2), (17, .if_icmp .gt 56, 3), (20, .aload_n 0, 1), (21, .iload_n 1, 1), (22, .invokevirtual 50, 3), (25, .ifCond .ne 5, 3), (28, .iconst 0, 1), (29, .ireturn, 1), (30, .aload_n 0, 1), (31, .aload_n 2, 1), (32, .invokevirtual 53, 3), (35, .aload_n 0, 1), (36, .bipush 94, 2), (38, .invokevirtual 57, 3), (41, .ifCond .ne 17, 3), (44, .aload_n 2, 1), (45, .iconst 0, 1), (46, .aload_n 0, 1), (47, .getfield 28, 3), (50, .iconst 0, 1), (51, .bipush 64, 2), (53, .invokestatic 61, 3), (56, .iconst 1, 1), (57, .ireturn, 1), (58, .aload_n 0, 1), (59, .invokevirtual 67, 3), (62, .ifCond .ne 5, 3), (65, .iconst 0, 1), (66, .ireturn, 1), (67, .iinc 3 1, 3), (70, .goto (-56), 3), (73, .iconst 0, 1), (74, .ireturn, 1)]
set_option maxRecDepth 100000 in
theorem hc_B_readBid : ∀ q ∈ cd_B_readBid, decode m_B_readBid.2.1 q.1 = .ok (q.2.1, q.2.2) := by decide +kernel
theorem g_B_readBid : am_good K0 m_B_readBid 1 := ⟨tw 163 rfl rfl, tw 2 rfl rfl, by decide +kernel, by decide⟩
def m_B_readSum : am_M := (⟨"BundleAuction$BidReader", "readSum", "(I)Z"⟩, prog_2_method_6_code, 4, some .boolean)
def cd_B_readSum : List (Nat × Instr × Nat) := [(0, .aload_n 0, 1), (1, .getfield 37, 3), (4, .iload_n 1, 1), (5, .aaload, 1), (6, .astore_n 2, 1), (7, .aload_n 2, 1), (8, .iconst 0, 1), (9, .invokestatic 44, 3), (12, .iconst 0, 1), (13, .istore_n 3, 1), (14, .iload_n 3, 1), (15, .bipush 12, 2), (17, .if_icmp .gt 59, 3), (20, .aload_n 0, 1), (21, .iload_n 1, 1), (22, .invokevirtual 71, 3), (25, .ifCond .ne 5, 3), (28, .iconst 0, 1), (29, .ireturn, 1), (30, .aload_n 2, 1), (31, .aload_n 0, 1), (32, .getfield 28, 3), (35, .invokestatic 74, 3), (38, .aload_n 0, 1), (39, .bipush 43, 2), (41, .invokevirtual 57, 3), (44, .ifCond .ne 17, 3), (47, .aload_n 2, 1), (48, .iconst 0, 1), (49, .aload_n 0, 1), (50, .getfield 28, 3), (53, .iconst 0, 1), (54, .bipush 64, 2), (56, .invokestatic 61, 3), (59, .iconst 1, 1), (60, .ireturn, 1), (61, .aload_n 0, 1), (62, .invokevirtual 67, 3), (65, .ifCond .ne 5, 3), (68, .iconst 0, 1), (69, .ireturn, 1), (70, .iinc 3 1, 3), (73, .goto (-59), 3), (76, .iconst 0, 1), (77, .ireturn, 1)]
set_option maxRecDepth 100000 in
theorem hc_B_readSum : ∀ q ∈ cd_B_readSum, decode m_B_readSum.2.1 q.1 = .ok (q.2.1, q.2.2) := by decide +kernel
theorem g_B_readSum : am_good K0 m_B_readSum 1 := ⟨tw 168 rfl rfl, tw 2 rfl rfl, by decide +kernel, by decide⟩
def m_B_readCapped : am_M := (⟨"BundleAuction$BidReader", "readCapped", "(I)Z"⟩, prog_2_method_7_code, 3, some .boolean)
def cd_B_readCapped : List (Nat × Instr × Nat) := [(0, .aload_n 0, 1), (1, .iload_n 1, 1), (2, .invokevirtual 78, 3), (5, .ifCond .ne 5, 3), (8, .iconst 0, 1), (9, .ireturn, 1), (10, .iconst 0, 1), (11, .istore_n 2, 1), (12, .iload_n 2, 1), (13, .bipush 12, 2), (15, .if_icmp .gt 40, 3), (18, .aload_n 0, 1), (19, .bipush 60, 2), (21, .invokevirtual 57, 3), (24, .ifCond .ne 5, 3), (27, .iconst 1, 1), (28, .ireturn, 1), (29, .aload_n 0, 1), (30, .invokevirtual 67, 3), (33, .ifCond .eq 10, 3), (36, .aload_n 0, 1), (37, .invokevirtual 81, 3), (40, .ifCond .ne 5, 3), (43, .iconst 0, 1), (44, .ireturn, 1), (45, .aload_n 0, 1), (46, .invokevirtual 84, 3), (49, .iinc 2 1, 3), (52, .goto (-40), 3), (55, .iconst 0, 1), (56, .ireturn, 1)]
set_option maxRecDepth 100000 in
theorem hc_B_readCapped : ∀ q ∈ cd_B_readCapped, decode m_B_readCapped.2.1 q.1 = .ok (q.2.1, q.2.2) := by decide +kernel
theorem g_B_readCapped : am_good K0 m_B_readCapped 1 := ⟨tw 172 rfl rfl, tw 2 rfl rfl, by decide +kernel, by decide⟩
def m_B_readAtom : am_M := (⟨"BundleAuction$BidReader", "readAtom", "(I)Z"⟩, prog_2_method_8_code, 2, some .boolean)
def cd_B_readAtom : List (Nat × Instr × Nat) := [(0, .aload_n 0, 1), (1, .bipush 40, 2), (3, .invokevirtual 57, 3), (6, .ifCond .ne 30, 3), (9, .aload_n 0, 1), (10, .invokevirtual 87, 3), (13, .ifCond .eq 21, 3), (16, .aload_n 0, 1), (17, .invokevirtual 81, 3), (20, .ifCond .eq 14, 3), (23, .aload_n 0, 1), (24, .invokevirtual 90, 3), (27, .ifCond .eq 7, 3), (30, .iconst 1, 1), (31, .goto 4, 3), (34, .iconst 0, 1), (35, .ireturn, 1), (36, .iload_n 1, 1), (37, .bipush 8, 2), (39, .if_icmp .lt 5, 3), (42, .iconst 0, 1), (43, .ireturn, 1), (44, .aload_n 0, 1), (45, .dup, 1), (46, .getfield 19, 3), (49, .iconst 1, 1), (50, .iadd, 1), (51, .putfield 19, 3), (54, .aload_n 0, 1), (55, .iload_n 1, 1), (56, .iconst 1, 1), (57, .iadd, 1), (58, .invokevirtual 40, 3), (61, .ifCond .eq 12, 3), (64, .aload_n 0, 1), (65, .bipush 41, 2), (67, .invokevirtual 57, 3), (70, .ifCond .ne 5, 3), (73, .iconst 0, 1), (74, .ireturn, 1), (75, .aload_n 0, 1), (76, .dup, 1), (77, .getfield 19, 3), (80, .iconst 1, 1), (81, .iadd, 1), (82, .putfield 19, 3), (85, .iconst 1, 1), (86, .ireturn, 1)]
set_option maxRecDepth 100000 in
theorem hc_B_readAtom : ∀ q ∈ cd_B_readAtom, decode m_B_readAtom.2.1 q.1 = .ok (q.2.1, q.2.2) := by decide +kernel
theorem g_B_readAtom : am_good K0 m_B_readAtom 1 := ⟨tw 176 rfl rfl, tw 2 rfl rfl, by decide +kernel, by decide⟩
def m_B_sees : am_M := (⟨"BundleAuction$BidReader", "sees", "(C)Z"⟩, prog_2_method_13_code, 2, some .boolean)
def cd_B_sees : List (Nat × Instr × Nat) := [(0, .aload_n 0, 1), (1, .getfield 19, 3), (4, .aload_n 0, 1), (5, .getfield 15, 3), (8, .if_icmp .ge 20, 3), (11, .aload_n 0, 1), (12, .getfield 11, 3), (15, .aload_n 0, 1), (16, .getfield 19, 3), (19, .caload, 1), (20, .iload_n 1, 1), (21, .if_icmp .ne 7, 3), (24, .iconst 1, 1), (25, .goto 4, 3), (28, .iconst 0, 1), (29, .ireturn, 1)]
set_option maxRecDepth 100000 in
theorem hc_B_sees : ∀ q ∈ cd_B_sees, decode m_B_sees.2.1 q.1 = .ok (q.2.1, q.2.2) := by decide +kernel
theorem g_B_sees : am_good K0 m_B_sees 1 := ⟨tw 180 rfl rfl, tw 2 rfl rfl, by decide +kernel, by decide⟩
def m_B_beginPart : am_M := (⟨"BundleAuction$BidReader", "beginPart", "()Z"⟩, prog_2_method_12_code, 1, some .boolean)
def cd_B_beginPart : List (Nat × Instr × Nat) := [(0, .aload_n 0, 1), (1, .getfield 25, 3), (4, .bipush 12, 2), (6, .if_icmp .lt 5, 3), (9, .iconst 0, 1), (10, .ireturn, 1), (11, .aload_n 0, 1), (12, .dup, 1), (13, .getfield 25, 3), (16, .iconst 1, 1), (17, .iadd, 1), (18, .putfield 25, 3), (21, .iconst 1, 1), (22, .ireturn, 1)]
set_option maxRecDepth 100000 in
theorem hc_B_beginPart : ∀ q ∈ cd_B_beginPart, decode m_B_beginPart.2.1 q.1 = .ok (q.2.1, q.2.2) := by decide +kernel
theorem g_B_beginPart : am_good K0 m_B_beginPart 0 := ⟨tw 184 rfl rfl, tw 2 rfl rfl, by decide +kernel, by decide⟩
def m_B_readNumber : am_M := (⟨"BundleAuction$BidReader", "readNumber", "()Z"⟩, prog_2_method_9_code, 2, some .boolean)
def cd_B_readNumber : List (Nat × Instr × Nat) := [(0, .aload_n 0, 1), (1, .invokevirtual 93, 3), (4, .ifCond .ne 5, 3), (7, .iconst 0, 1), (8, .ireturn, 1), (9, .aload_n 0, 1), (10, .iconst 0, 1), (11, .putfield 22, 3), (14, .iconst 0, 1), (15, .istore_n 1, 1), (16, .iload_n 1, 1), (17, .iconst 3, 1), (18, .if_icmp .ge 50, 3), (21, .aload_n 0, 1), (22, .invokevirtual 93, 3), (25, .ifCond .eq 43, 3), (28, .aload_n 0, 1), (29, .aload_n 0, 1), (30, .getfield 22, 3), (33, .bipush 10, 2), (35, .imul, 1), (36, .aload_n 0, 1), (37, .getfield 11, 3), (40, .aload_n 0, 1), (41, .getfield 19, 3), (44, .caload, 1), (45, .bipush 48, 2), (47, .isub, 1), (48, .iadd, 1), (49, .putfield 22, 3), (52, .aload_n 0, 1), (53, .dup, 1), (54, .getfield 19, 3), (57, .iconst 1, 1), (58, .iadd, 1), (59, .putfield 19, 3), (62, .iinc 1 1, 3), (65, .goto (-49), 3), (68, .iconst 1, 1), (69, .ireturn, 1)]
set_option maxRecDepth 100000 in
theorem hc_B_readNumber : ∀ q ∈ cd_B_readNumber, decode m_B_readNumber.2.1 q.1 = .ok (q.2.1, q.2.2) := by decide +kernel
theorem g_B_readNumber : am_good K0 m_B_readNumber 0 := ⟨tw 188 rfl rfl, tw 2 rfl rfl, by decide +kernel, by decide⟩
def m_B_seesDigit : am_M := (⟨"BundleAuction$BidReader", "seesDigit", "()Z"⟩, prog_2_method_14_code, 1, some .boolean)
def cd_B_seesDigit : List (Nat × Instr × Nat) := [(0, .aload_n 0, 1), (1, .getfield 19, 3), (4, .aload_n 0, 1), (5, .getfield 15, 3), (8, .if_icmp .ge 35, 3), (11, .aload_n 0, 1), (12, .getfield 11, 3), (15, .aload_n 0, 1), (16, .getfield 19, 3), (19, .caload, 1), (20, .bipush 48, 2), (22, .if_icmp .lt 21, 3), (25, .aload_n 0, 1), (26, .getfield 11, 3), (29, .aload_n 0, 1), (30, .getfield 19, 3), (33, .caload, 1), (34, .bipush 57, 2), (36, .if_icmp .gt 7, 3), (39, .iconst 1, 1), (40, .goto 4, 3), (43, .iconst 0, 1), (44, .ireturn, 1)]
set_option maxRecDepth 100000 in
theorem hc_B_seesDigit : ∀ q ∈ cd_B_seesDigit, decode m_B_seesDigit.2.1 q.1 = .ok (q.2.1, q.2.2) := by decide +kernel
theorem g_B_seesDigit : am_good K0 m_B_seesDigit 0 := ⟨tw 192 rfl rfl, tw 2 rfl rfl, by decide +kernel, by decide⟩
def m_B_readLetters : am_M := (⟨"BundleAuction$BidReader", "readLetters", "()Z"⟩, prog_2_method_10_code, 4, some .boolean)
def cd_B_readLetters : List (Nat × Instr × Nat) := [(0, .iconst 0, 1), (1, .istore_n 1, 1), (2, .iconst 0, 1), (3, .istore_n 2, 1), (4, .iload_n 2, 1), (5, .bipush 6, 2), (7, .if_icmp .ge 54, 3), (10, .aload_n 0, 1), (11, .invokevirtual 96, 3), (14, .ifCond .eq 47, 3), (17, .iconst 1, 1), (18, .aload_n 0, 1), (19, .getfield 11, 3), (22, .aload_n 0, 1), (23, .getfield 19, 3), (26, .caload, 1), (27, .bipush 97, 2), (29, .isub, 1), (30, .ishl, 1), (31, .istore_n 3, 1), (32, .iload_n 1, 1), (33, .iload_n 3, 1), (34, .iand, 1), (35, .ifCond .eq 6, 3), (38, .goto 23, 3), (41, .iload_n 1, 1), (42, .iload_n 3, 1), (43, .ior, 1), (44, .istore_n 1, 1), (45, .aload_n 0, 1), (46, .dup, 1), (47, .getfield 19, 3), (50, .iconst 1, 1), (51, .iadd, 1), (52, .putfield 19, 3), (55, .iinc 2 1, 3), (58, .goto (-54), 3), (61, .iconst 0, 1), (62, .istore_n 2, 1), (63, .iload_n 2, 1), (64, .bipush 64, 2), (66, .if_icmp .ge 30, 3), (69, .aload_n 0, 1), (70, .getfield 28, 3), (73, .iload_n 2, 1), (74, .iload_n 2, 1), (75, .iload_n 1, 1), (76, .iand, 1), (77, .iload_n 1, 1), (78, .if_icmp .ne 10, 3), (81, .aload_n 0, 1), (82, .getfield 22, 3), (85, .goto 4, 3), (88, .iconst 0, 1), (89, .iastore, 1), (90, .iinc 2 1, 3), (93, .goto (-30), 3), (96, .iload_n 1, 1), (97, .ifCond .eq 7, 3), (100, .iconst 1, 1), (101, .goto 4, 3), (104, .iconst 0, 1), (105, .ireturn, 1)]
set_option maxRecDepth 100000 in
theorem hc_B_readLetters : ∀ q ∈ cd_B_readLetters, decode m_B_readLetters.2.1 q.1 = .ok (q.2.1, q.2.2) := by decide +kernel
theorem g_B_readLetters : am_good K0 m_B_readLetters 0 := ⟨tw 196 rfl rfl, tw 2 rfl rfl, by decide +kernel, by decide⟩
def m_B_seesLetter : am_M := (⟨"BundleAuction$BidReader", "seesLetter", "()Z"⟩, prog_2_method_15_code, 1, some .boolean)
def cd_B_seesLetter : List (Nat × Instr × Nat) := [(0, .aload_n 0, 1), (1, .getfield 19, 3), (4, .aload_n 0, 1), (5, .getfield 15, 3), (8, .if_icmp .ge 35, 3), (11, .aload_n 0, 1), (12, .getfield 11, 3), (15, .aload_n 0, 1), (16, .getfield 19, 3), (19, .caload, 1), (20, .bipush 97, 2), (22, .if_icmp .lt 21, 3), (25, .aload_n 0, 1), (26, .getfield 11, 3), (29, .aload_n 0, 1), (30, .getfield 19, 3), (33, .caload, 1), (34, .bipush 102, 2), (36, .if_icmp .gt 7, 3), (39, .iconst 1, 1), (40, .goto 4, 3), (43, .iconst 0, 1), (44, .ireturn, 1)]
set_option maxRecDepth 100000 in
theorem hc_B_seesLetter : ∀ q ∈ cd_B_seesLetter, decode m_B_seesLetter.2.1 q.1 = .ok (q.2.1, q.2.2) := by decide +kernel
theorem g_B_seesLetter : am_good K0 m_B_seesLetter 0 := ⟨tw 200 rfl rfl, tw 2 rfl rfl, by decide +kernel, by decide⟩
def m_B_takeSign : am_M := (⟨"BundleAuction$BidReader", "takeSign", "()Z"⟩, prog_2_method_11_code, 1, some .boolean)
def cd_B_takeSign : List (Nat × Instr × Nat) := [(0, .aload_n 0, 1), (1, .invokevirtual 87, 3), (4, .ifCond .ne 5, 3), (7, .iconst 0, 1), (8, .ireturn, 1), (9, .aload_n 0, 1), (10, .dup, 1), (11, .getfield 19, 3), (14, .iconst 1, 1), (15, .iadd, 1), (16, .putfield 19, 3), (19, .iconst 1, 1), (20, .ireturn, 1)]
set_option maxRecDepth 100000 in
theorem hc_B_takeSign : ∀ q ∈ cd_B_takeSign, decode m_B_takeSign.2.1 q.1 = .ok (q.2.1, q.2.2) := by decide +kernel
theorem g_B_takeSign : am_good K0 m_B_takeSign 0 := ⟨tw 204 rfl rfl, tw 2 rfl rfl, by decide +kernel, by decide⟩
def m_B_capValue : am_M := (⟨"BundleAuction$BidReader", "capValue", "()V"⟩, prog_2_method_17_code, 2, none)
def cd_B_capValue : List (Nat × Instr × Nat) := [(0, .iconst 0, 1), (1, .istore_n 1, 1), (2, .iload_n 1, 1), (3, .bipush 64, 2), (5, .if_icmp .ge 28, 3), (8, .aload_n 0, 1), (9, .getfield 28, 3), (12, .iload_n 1, 1), (13, .aload_n 0, 1), (14, .getfield 28, 3), (17, .iload_n 1, 1), (18, .iaload, 1), (19, .aload_n 0, 1), (20, .getfield 22, 3), (23, .invokestatic 105, 3), (26, .iastore, 1), (27, .iinc 1 1, 3), (30, .goto (-28), 3), (33, .return_, 1)]
set_option maxRecDepth 100000 in
theorem hc_B_capValue : ∀ q ∈ cd_B_capValue, decode m_B_capValue.2.1 q.1 = .ok (q.2.1, q.2.2) := by decide +kernel
theorem g_B_capValue : am_good K0 m_B_capValue 0 := ⟨tw 208 rfl rfl, tw 2 rfl rfl, by decide +kernel, by decide⟩
def m_A_join : am_M := (⟨"BundleAuction", "join", "([I[I)V"⟩, prog_1_method_25_code, 5, none)
def cd_A_join : List (Nat × Instr × Nat) := [(0, .bipush 63, 2), (2, .istore_n 2, 1), (3, .iload_n 2, 1), (4, .ifCond .lt 56, 3), (7, .aload_n 0, 1), (8, .iconst 0, 1), (9, .iaload, 1), (10, .aload_n 1, 1), (11, .iload_n 2, 1), (12, .iaload, 1), (13, .iadd, 1), (14, .istore_n 3, 1), (15, .iload_n 2, 1), (16, .istore 4, 2), (18, .iload 4, 2), (20, .ifCond .le 30, 3), (23, .iload_n 3, 1), (24, .aload_n 0, 1), (25, .iload 4, 2), (27, .iaload, 1), (28, .aload_n 1, 1), (29, .iload_n 2, 1), (30, .iload 4, 2), (32, .isub, 1), (33, .iaload, 1), (34, .iadd, 1), (35, .invokestatic 119, 3), (38, .istore_n 3, 1), (39, .iload 4, 2), (41, .iconst 1, 1), (42, .isub, 1), (43, .iload_n 2, 1), (44, .iand, 1), (45, .istore 4, 2), (47, .goto (-29), 3), (50, .aload_n 0, 1), (51, .iload_n 2, 1), (52, .iload_n 3, 1), (53, .iastore, 1), (54, .iinc 2 (-1), 3), (57, .goto (-54), 3), (60, .return_, 1)]
set_option maxRecDepth 100000 in
theorem hc_A_join : ∀ q ∈ cd_A_join, decode m_A_join.2.1 q.1 = .ok (q.2.1, q.2.2) := by decide +kernel
theorem g_A_join : am_good K0 m_A_join 2 := ⟨tw 214 rfl rfl, tw 1 rfl rfl, by decide +kernel, by decide⟩
def m_B_keepGreater : am_M := (⟨"BundleAuction$BidReader", "keepGreater", "([I)V"⟩, prog_2_method_16_code, 3, none)
def cd_B_keepGreater : List (Nat × Instr × Nat) := [(0, .iconst 0, 1), (1, .istore_n 2, 1), (2, .iload_n 2, 1), (3, .bipush 64, 2), (5, .if_icmp .ge 24, 3), (8, .aload_n 1, 1), (9, .iload_n 2, 1), (10, .aload_n 1, 1), (11, .iload_n 2, 1), (12, .iaload, 1), (13, .aload_n 0, 1), (14, .getfield 28, 3), (17, .iload_n 2, 1), (18, .iaload, 1), (19, .invokestatic 99, 3), (22, .iastore, 1), (23, .iinc 2 1, 3), (26, .goto (-24), 3), (29, .return_, 1)]
set_option maxRecDepth 100000 in
theorem hc_B_keepGreater : ∀ q ∈ cd_B_keepGreater, decode m_B_keepGreater.2.1 q.1 = .ok (q.2.1, q.2.2) := by decide +kernel
theorem g_B_keepGreater : am_good K0 m_B_keepGreater 1 := ⟨tw 224 rfl rfl, tw 2 rfl rfl, by decide +kernel, by decide⟩
def m_B_empty : am_M := (⟨"BundleAuction$BidReader", "empty", "()V"⟩, prog_2_method_3_code, 1, none)
def cd_B_empty : List (Nat × Instr × Nat) := [(0, .aload_n 0, 1), (1, .iconst 0, 1), (2, .putfield 15, 3), (5, .return_, 1)]
set_option maxRecDepth 100000 in
theorem hc_B_empty : ∀ q ∈ cd_B_empty, decode m_B_empty.2.1 q.1 = .ok (q.2.1, q.2.2) := by decide +kernel
theorem g_B_empty : am_good K0 m_B_empty 0 := ⟨tw 229 rfl rfl, tw 2 rfl rfl, by decide +kernel, by decide⟩
def m_A_worth : am_M := (⟨"BundleAuction", "worth", "(II)I"⟩, prog_1_method_8_code, 3, some .int)
def cd_A_worth : List (Nat × Instr × Nat) := [(0, .iload_n 1, 1), (1, .invokestatic 55, 3), (4, .ifCond .eq 13, 3), (7, .iload_n 2, 1), (8, .ifCond .lt 9, 3), (11, .iload_n 2, 1), (12, .bipush 64, 2), (14, .if_icmp .lt 6, 3), (17, .bipush (-2), 2), (19, .ireturn, 1), (20, .aload_n 0, 1), (21, .getfield 30, 3), (24, .iload_n 1, 1), (25, .aaload, 1), (26, .iload_n 2, 1), (27, .iaload, 1), (28, .ireturn, 1)]
set_option maxRecDepth 100000 in
theorem hc_A_worth : ∀ q ∈ cd_A_worth, decode m_A_worth.2.1 q.1 = .ok (q.2.1, q.2.2) := by decide +kernel
theorem g_A_worth : am_good K0 m_A_worth 2 := ⟨tw 234 rfl rfl, tw 1 rfl rfl, by decide +kernel, by decide⟩
def m_A_parts : am_M := (⟨"BundleAuction", "parts", "(I)I"⟩, prog_1_method_9_code, 2, some .int)
def cd_A_parts : List (Nat × Instr × Nat) := [(0, .iload_n 1, 1), (1, .invokestatic 55, 3), (4, .ifCond .eq 12, 3), (7, .aload_n 0, 1), (8, .getfield 25, 3), (11, .iload_n 1, 1), (12, .iaload, 1), (13, .goto 5, 3), (16, .bipush (-2), 2), (18, .ireturn, 1)]
set_option maxRecDepth 100000 in
theorem hc_A_parts : ∀ q ∈ cd_A_parts, decode m_A_parts.2.1 q.1 = .ok (q.2.1, q.2.2) := by decide +kernel
theorem g_A_parts : am_good K0 m_A_parts 1 := ⟨tw 238 rfl rfl, tw 1 rfl rfl, by decide +kernel, by decide⟩
def m_A_welfare : am_M := (⟨"BundleAuction", "welfare", "(I)I"⟩, prog_1_method_10_code, 2, some .int)
def cd_A_welfare : List (Nat × Instr × Nat) := [(0, .iload_n 1, 1), (1, .iconst (-1), 1), (2, .if_icmp .eq 13, 3), (5, .iload_n 1, 1), (6, .invokestatic 55, 3), (9, .ifCond .ne 6, 3), (12, .bipush (-2), 2), (14, .ireturn, 1), (15, .aload_n 0, 1), (16, .getfield 43, 3), (19, .aload_n 0, 1), (20, .getfield 30, 3), (23, .aload_n 0, 1), (24, .getfield 16, 3), (27, .iload_n 1, 1), (28, .invokevirtual 94, 3), (31, .invokestatic 98, 3), (34, .ireturn, 1)]
set_option maxRecDepth 100000 in
theorem hc_A_welfare : ∀ q ∈ cd_A_welfare, decode m_A_welfare.2.1 q.1 = .ok (q.2.1, q.2.2) := by decide +kernel
theorem g_A_welfare : am_good K0 m_A_welfare 1 := ⟨tw 242 rfl rfl, tw 1 rfl rfl, by decide +kernel, by decide⟩
def m_S_greatestScore : am_M := (⟨"BundleAuction$Sharing", "greatestScore", "([[I[II)I"⟩, prog_3_method_2_code, 5, some .int)
def cd_S_greatestScore : List (Nat × Instr × Nat) := [(0, .iconst 0, 1), (1, .istore 4, 2), (3, .iload 4, 2), (5, .bipush 64, 2), (7, .if_icmp .ge 25, 3), (10, .aload_n 0, 1), (11, .getfield 15, 3), (14, .iload 4, 2), (16, .aload_n 2, 1), (17, .iload 4, 2), (19, .invokestatic 24, 3), (22, .ldc 28, 2), (24, .imul, 1), (25, .iastore, 1), (26, .iinc 4 1, 3), (29, .goto (-26), 3), (32, .iconst 0, 1), (33, .istore 4, 2), (35, .iload 4, 2), (37, .iconst 5, 1), (38, .if_icmp .ge 38, 3), (41, .iload 4, 2), (43, .iload_n 3, 1), (44, .if_icmp .eq 26, 3), (47, .aload_n 0, 1), (48, .aload_n 1, 1), (49, .iload 4, 2), (51, .aaload, 1), (52, .iload 4, 2), (54, .iconst 1, 1), (55, .iadd, 1), (56, .invokevirtual 29, 3), (59, .aload_n 0, 1), (60, .getfield 15, 3), (63, .aload_n 0, 1), (64, .getfield 18, 3), (67, .invokestatic 33, 3), (70, .iinc 4 1, 3), (73, .goto (-38), 3), (76, .aload_n 0, 1), (77, .getfield 15, 3), (80, .bipush 63, 2), (82, .iaload, 1), (83, .ireturn, 1)]
set_option maxRecDepth 100000 in
theorem hc_S_greatestScore : ∀ q ∈ cd_S_greatestScore, decode m_S_greatestScore.2.1 q.1 = .ok (q.2.1, q.2.2) := by decide +kernel
theorem g_S_greatestScore : am_good K0 m_S_greatestScore 3 := ⟨tw 246 rfl rfl, tw 3 rfl rfl, by decide +kernel, by decide⟩
def m_S_scoreBidder : am_M := (⟨"BundleAuction$Sharing", "scoreBidder", "([II)V"⟩, prog_3_method_5_code, 4, none)
def cd_S_scoreBidder : List (Nat × Instr × Nat) := [(0, .iconst 0, 1), (1, .istore_n 3, 1), (2, .iload_n 3, 1), (3, .bipush 64, 2), (5, .if_icmp .ge 30, 3), (8, .aload_n 0, 1), (9, .getfield 18, 3), (12, .iload_n 3, 1), (13, .aload_n 1, 1), (14, .iload_n 3, 1), (15, .iaload, 1), (16, .ldc 28, 2), (18, .imul, 1), (19, .aload_n 0, 1), (20, .getfield 9, 3), (23, .iload_n 3, 1), (24, .iaload, 1), (25, .iload_n 2, 1), (26, .imul, 1), (27, .isub, 1), (28, .iastore, 1), (29, .iinc 3 1, 3), (32, .goto (-30), 3), (35, .return_, 1)]
set_option maxRecDepth 100000 in
theorem hc_S_scoreBidder : ∀ q ∈ cd_S_scoreBidder, decode m_S_scoreBidder.2.1 q.1 = .ok (q.2.1, q.2.2) := by decide +kernel
theorem g_S_scoreBidder : am_good K0 m_S_scoreBidder 2 := ⟨tw 251 rfl rfl, tw 3 rfl rfl, by decide +kernel, by decide⟩
def m_S_welfareIn : am_M := (⟨"BundleAuction$Sharing", "welfareIn", "(I)I"⟩, prog_3_method_3_code, 1, some .int)
def cd_S_welfareIn : List (Nat × Instr × Nat) := [(0, .iload_n 0, 1), (1, .ldc 28, 2), (3, .iadd, 1), (4, .iconst 1, 1), (5, .isub, 1), (6, .ldc 28, 2), (8, .idiv, 1), (9, .ireturn, 1)]
set_option maxRecDepth 100000 in
theorem hc_S_welfareIn : ∀ q ∈ cd_S_welfareIn, decode m_S_welfareIn.2.1 q.1 = .ok (q.2.1, q.2.2) := by decide +kernel
theorem g_S_welfareIn : am_good K0 m_S_welfareIn 1 := ⟨tw 255 rfl rfl, tw 3 rfl rfl, by decide +kernel, by decide⟩
def m_A_close : am_M := (⟨"BundleAuction", "close", "()I"⟩, prog_1_method_11_code, 4, some .int)
def cd_A_close : List (Nat × Instr × Nat) := [(0, .aload_n 0, 1), (1, .getfield 51, 3), (4, .ifCond .eq 6, 3), (7, .bipush (-2), 2), (9, .ireturn, 1), (10, .aload_n 0, 1), (11, .getfield 43, 3), (14, .aload_n 0, 1), (15, .getfield 30, 3), (18, .aload_n 0, 1), (19, .getfield 16, 3), (22, .iconst (-1), 1), (23, .invokevirtual 94, 3), (26, .istore_n 1, 1), (27, .iload_n 1, 1), (28, .aload_n 0, 1), (29, .getfield 19, 3), (32, .invokestatic 102, 3), (35, .iload_n 1, 1), (36, .invokestatic 98, 3), (39, .istore_n 2, 1), (40, .iconst 0, 1), (41, .istore_n 3, 1), (42, .iload_n 3, 1), (43, .iconst 5, 1), (44, .if_icmp .ge 15, 3), (47, .aload_n 0, 1), (48, .iload_n 3, 1), (49, .iload_n 2, 1), (50, .invokevirtual 106, 3), (53, .iinc 3 1, 3), (56, .goto (-14), 3), (59, .aload_n 0, 1), (60, .iconst 1, 1), (61, .putfield 51, 3), (64, .iload_n 2, 1), (65, .ireturn, 1)]
set_option maxRecDepth 100000 in
theorem hc_A_close : ∀ q ∈ cd_A_close, decode m_A_close.2.1 q.1 = .ok (q.2.1, q.2.2) := by decide +kernel
theorem g_A_close : am_good K0 m_A_close 0 := ⟨tw 259 rfl rfl, tw 1 rfl rfl, by decide +kernel, by decide⟩
def m_S_writeOwners : am_M := (⟨"BundleAuction$Sharing", "writeOwners", "(I[I)V"⟩, prog_3_method_4_code, 4, none)
def cd_S_writeOwners : List (Nat × Instr × Nat) := [(0, .iload_n 0, 1), (1, .invokestatic 37, 3), (4, .ldc 28, 2), (6, .imul, 1), (7, .iload_n 0, 1), (8, .isub, 1), (9, .istore_n 2, 1), (10, .iconst 5, 1), (11, .istore_n 3, 1), (12, .iload_n 3, 1), (13, .ifCond .lt 23, 3), (16, .aload_n 1, 1), (17, .iload_n 3, 1), (18, .iload_n 2, 1), (19, .bipush 6, 2), (21, .irem, 1), (22, .iconst 1, 1), (23, .isub, 1), (24, .iastore, 1), (25, .iload_n 2, 1), (26, .bipush 6, 2), (28, .idiv, 1), (29, .istore_n 2, 1), (30, .iinc 3 (-1), 3), (33, .goto (-21), 3), (36, .return_, 1)]
set_option maxRecDepth 100000 in
theorem hc_S_writeOwners : ∀ q ∈ cd_S_writeOwners, decode m_S_writeOwners.2.1 q.1 = .ok (q.2.1, q.2.2) := by decide +kernel
theorem g_S_writeOwners : am_good K0 m_S_writeOwners 2 := ⟨tw 262 rfl rfl, tw 3 rfl rfl, by decide +kernel, by decide⟩
def m_A_settle : am_M := (⟨"BundleAuction", "settle", "(II)V"⟩, prog_1_method_23_code, 5, none)
def cd_A_settle : List (Nat × Instr × Nat) := [(0, .aload_n 0, 1), (1, .getfield 43, 3), (4, .aload_n 0, 1), (5, .getfield 30, 3), (8, .aload_n 0, 1), (9, .getfield 16, 3), (12, .iload_n 1, 1), (13, .invokevirtual 94, 3), (16, .invokestatic 98, 3), (19, .istore_n 3, 1), (20, .iload_n 3, 1), (21, .iload_n 2, 1), (22, .isub, 1), (23, .aload_n 0, 1), (24, .getfield 30, 3), (27, .iload_n 1, 1), (28, .aaload, 1), (29, .aload_n 0, 1), (30, .iload_n 1, 1), (31, .invokevirtual 116, 3), (34, .iaload, 1), (35, .iadd, 1), (36, .istore 4, 2), (38, .aload_n 0, 1), (39, .getfield 22, 3), (42, .iload_n 1, 1), (43, .iload 4, 2), (45, .iastore, 1), (46, .aload_n 0, 1), (47, .getfield 13, 3), (50, .iload_n 1, 1), (51, .dup2, 1), (52, .iaload, 1), (53, .iload 4, 2), (55, .isub, 1), (56, .iastore, 1), (57, .aload_n 0, 1), (58, .dup, 1), (59, .getfield 47, 3), (62, .iload 4, 2), (64, .iadd, 1), (65, .putfield 47, 3), (68, .aload_n 0, 1), (69, .iload_n 1, 1), (70, .invokevirtual 65, 3), (73, .return_, 1)]
set_option maxRecDepth 100000 in
theorem hc_A_settle : ∀ q ∈ cd_A_settle, decode m_A_settle.2.1 q.1 = .ok (q.2.1, q.2.2) := by decide +kernel
theorem g_A_settle : am_good K0 m_A_settle 2 := ⟨tw 267 rfl rfl, tw 1 rfl rfl, by decide +kernel, by decide⟩
def m_A_setOf : am_M := (⟨"BundleAuction", "setOf", "(I)I"⟩, prog_1_method_24_code, 4, some .int)
def cd_A_setOf : List (Nat × Instr × Nat) := [(0, .iconst 0, 1), (1, .istore_n 2, 1), (2, .iconst 0, 1), (3, .istore_n 3, 1), (4, .iload_n 3, 1), (5, .bipush 6, 2), (7, .if_icmp .ge 25, 3), (10, .aload_n 0, 1), (11, .getfield 19, 3), (14, .iload_n 3, 1), (15, .iaload, 1), (16, .iload_n 1, 1), (17, .if_icmp .ne 9, 3), (20, .iload_n 2, 1), (21, .iconst 1, 1), (22, .iload_n 3, 1), (23, .ishl, 1), (24, .ior, 1), (25, .istore_n 2, 1), (26, .iinc 3 1, 3), (29, .goto (-25), 3), (32, .iload_n 2, 1), (33, .ireturn, 1)]
set_option maxRecDepth 100000 in
theorem hc_A_setOf : ∀ q ∈ cd_A_setOf, decode m_A_setOf.2.1 q.1 = .ok (q.2.1, q.2.2) := by decide +kernel
theorem g_A_setOf : am_good K0 m_A_setOf 1 := ⟨tw 271 rfl rfl, tw 1 rfl rfl, by decide +kernel, by decide⟩
def m_A_reopen : am_M := (⟨"BundleAuction", "reopen", "()Z"⟩, prog_1_method_12_code, 2, some .boolean)
def cd_A_reopen : List (Nat × Instr × Nat) := [(0, .aload_n 0, 1), (1, .getfield 51, 3), (4, .ifCond .ne 5, 3), (7, .iconst 0, 1), (8, .ireturn, 1), (9, .iconst 0, 1), (10, .istore_n 1, 1), (11, .iload_n 1, 1), (12, .iconst 5, 1), (13, .if_icmp .ge 14, 3), (16, .aload_n 0, 1), (17, .iload_n 1, 1), (18, .invokevirtual 61, 3), (21, .iinc 1 1, 3), (24, .goto (-13), 3), (27, .aload_n 0, 1), (28, .iconst 0, 1), (29, .putfield 51, 3), (32, .iconst 1, 1), (33, .ireturn, 1)]
set_option maxRecDepth 100000 in
theorem hc_A_reopen : ∀ q ∈ cd_A_reopen, decode m_A_reopen.2.1 q.1 = .ok (q.2.1, q.2.2) := by decide +kernel
theorem g_A_reopen : am_good K0 m_A_reopen 0 := ⟨tw 275 rfl rfl, tw 1 rfl rfl, by decide +kernel, by decide⟩
def m_A_owner : am_M := (⟨"BundleAuction", "owner", "(I)I"⟩, prog_1_method_13_code, 2, some .int)
def cd_A_owner : List (Nat × Instr × Nat) := [(0, .aload_n 0, 1), (1, .getfield 51, 3), (4, .ifCond .eq 19, 3), (7, .iload_n 1, 1), (8, .invokestatic 68, 3), (11, .ifCond .eq 12, 3), (14, .aload_n 0, 1), (15, .getfield 19, 3), (18, .iload_n 1, 1), (19, .iaload, 1), (20, .goto 5, 3), (23, .bipush (-2), 2), (25, .ireturn, 1)]
set_option maxRecDepth 100000 in
theorem hc_A_owner : ∀ q ∈ cd_A_owner, decode m_A_owner.2.1 q.1 = .ok (q.2.1, q.2.2) := by decide +kernel
theorem g_A_owner : am_good K0 m_A_owner 1 := ⟨tw 279 rfl rfl, tw 1 rfl rfl, by decide +kernel, by decide⟩
def m_A_paid : am_M := (⟨"BundleAuction", "paid", "(I)I"⟩, prog_1_method_14_code, 2, some .int)
def cd_A_paid : List (Nat × Instr × Nat) := [(0, .aload_n 0, 1), (1, .getfield 51, 3), (4, .ifCond .eq 19, 3), (7, .iload_n 1, 1), (8, .invokestatic 55, 3), (11, .ifCond .eq 12, 3), (14, .aload_n 0, 1), (15, .getfield 22, 3), (18, .iload_n 1, 1), (19, .iaload, 1), (20, .goto 5, 3), (23, .bipush (-2), 2), (25, .ireturn, 1)]
set_option maxRecDepth 100000 in
theorem hc_A_paid : ∀ q ∈ cd_A_paid, decode m_A_paid.2.1 q.1 = .ok (q.2.1, q.2.2) := by decide +kernel
theorem g_A_paid : am_good K0 m_A_paid 1 := ⟨tw 283 rfl rfl, tw 1 rfl rfl, by decide +kernel, by decide⟩
def m_A_cash : am_M := (⟨"BundleAuction", "cash", "(I)I"⟩, prog_1_method_15_code, 2, some .int)
def cd_A_cash : List (Nat × Instr × Nat) := [(0, .iload_n 1, 1), (1, .invokestatic 55, 3), (4, .ifCond .eq 12, 3), (7, .aload_n 0, 1), (8, .getfield 9, 3), (11, .iload_n 1, 1), (12, .iaload, 1), (13, .goto 5, 3), (16, .bipush (-2), 2), (18, .ireturn, 1)]
set_option maxRecDepth 100000 in
theorem hc_A_cash : ∀ q ∈ cd_A_cash, decode m_A_cash.2.1 q.1 = .ok (q.2.1, q.2.2) := by decide +kernel
theorem g_A_cash : am_good K0 m_A_cash 1 := ⟨tw 287 rfl rfl, tw 1 rfl rfl, by decide +kernel, by decide⟩
def m_A_escrow : am_M := (⟨"BundleAuction", "escrow", "(I)I"⟩, prog_1_method_16_code, 2, some .int)
def cd_A_escrow : List (Nat × Instr × Nat) := [(0, .iload_n 1, 1), (1, .invokestatic 55, 3), (4, .ifCond .eq 12, 3), (7, .aload_n 0, 1), (8, .getfield 13, 3), (11, .iload_n 1, 1), (12, .iaload, 1), (13, .goto 5, 3), (16, .bipush (-2), 2), (18, .ireturn, 1)]
set_option maxRecDepth 100000 in
theorem hc_A_escrow : ∀ q ∈ cd_A_escrow, decode m_A_escrow.2.1 q.1 = .ok (q.2.1, q.2.2) := by decide +kernel
theorem g_A_escrow : am_good K0 m_A_escrow 1 := ⟨tw 291 rfl rfl, tw 1 rfl rfl, by decide +kernel, by decide⟩
def m_A_seller : am_M := (⟨"BundleAuction", "seller", "()I"⟩, prog_1_method_17_code, 1, some .int)
def cd_A_seller : List (Nat × Instr × Nat) := [(0, .aload_n 0, 1), (1, .getfield 47, 3), (4, .ireturn, 1)]
set_option maxRecDepth 100000 in
theorem hc_A_seller : ∀ q ∈ cd_A_seller, decode m_A_seller.2.1 q.1 = .ok (q.2.1, q.2.2) := by decide +kernel
theorem g_A_seller : am_good K0 m_A_seller 0 := ⟨tw 295 rfl rfl, tw 1 rfl rfl, by decide +kernel, by decide⟩
def m_A_state : am_M := (⟨"BundleAuction", "state", "()I"⟩, prog_1_method_18_code, 1, some .int)
def cd_A_state : List (Nat × Instr × Nat) := [(0, .aload_n 0, 1), (1, .getfield 51, 3), (4, .ifCond .eq 7, 3), (7, .iconst 1, 1), (8, .goto 4, 3), (11, .iconst 0, 1), (12, .ireturn, 1)]
set_option maxRecDepth 100000 in
theorem hc_A_state : ∀ q ∈ cd_A_state, decode m_A_state.2.1 q.1 = .ok (q.2.1, q.2.2) := by decide +kernel
theorem g_A_state : am_good K0 m_A_state 0 := ⟨tw 299 rfl rfl, tw 1 rfl rfl, by decide +kernel, by decide⟩
def m_M_init : am_M := (⟨"BundleAuctionModel", "<init>", "()V"⟩, prog_5_method_1_code, 1, none)
def cd_M_init : List (Nat × Instr × Nat) := [(0, .aload_n 0, 1), (1, .invokespecial 1, 3), (4, .aload_n 0, 1), (5, .iconst 5, 1), (6, .newarray .int, 2), (8, .putfield 7, 3), (11, .aload_n 0, 1), (12, .iconst 5, 1), (13, .newarray .int, 2), (15, .putfield 13, 3), (18, .aload_n 0, 1), (19, .bipush 6, 2), (21, .newarray .int, 2), (23, .putfield 16, 3), (26, .aload_n 0, 1), (27, .bipush 40, 2), (29, .newarray .int, 2), (31, .putfield 19, 3), (34, .aload_n 0, 1), (35, .sipush 320, 3), (38, .newarray .int, 2), (40, .putfield 22, 3), (43, .aload_n 0, 1), (44, .iconst 5, 1), (45, .newarray .int, 2), (47, .putfield 25, 3), (50, .aload_n 0, 1), (51, .sipush 832, 3), (54, .newarray .int, 2), (56, .putfield 28, 3), (59, .aload_n 0, 1), (60, .bipush 64, 2), (62, .newarray .int, 2), (64, .putfield 31, 3), (67, .aload_n 0, 1), (68, .bipush 40, 2), (70, .newarray .int, 2), (72, .putfield 34, 3), (75, .aload_n 0, 1), (76, .iconst 5, 1), (77, .newarray .int, 2), (79, .putfield 37, 3), (82, .aload_n 0, 1), (83, .bipush 6, 2), (85, .newarray .int, 2), (87, .putfield 40, 3), (90, .aload_n 0, 1), (91, .iconst 5, 1), (92, .newarray .int, 2), (94, .putfield 43, 3), (97, .return_, 1)]
set_option maxRecDepth 100000 in
theorem hc_M_init : ∀ q ∈ cd_M_init, decode m_M_init.2.1 q.1 = .ok (q.2.1, q.2.2) := by decide +kernel
theorem g_M_init : am_good K0 m_M_init 0 := ⟨tw 304 rfl rfl, tw 4 rfl rfl, by decide +kernel, by decide⟩
def m_M_fund : am_M := (⟨"BundleAuctionModel", "fund", "(II)Z"⟩, prog_5_method_3_code, 3, some .boolean)
def cd_M_fund : List (Nat × Instr × Nat) := [(0, .iload_n 1, 1), (1, .invokestatic 46, 3), (4, .ifCond .eq 34, 3), (7, .iload_n 2, 1), (8, .iconst 1, 1), (9, .if_icmp .lt 29, 3), (12, .iload_n 2, 1), (13, .ldc 50, 2), (15, .if_icmp .gt 23, 3), (18, .aload_n 0, 1), (19, .getfield 7, 3), (22, .iload_n 1, 1), (23, .iaload, 1), (24, .aload_n 0, 1), (25, .getfield 13, 3), (28, .iload_n 1, 1), (29, .iaload, 1), (30, .iadd, 1), (31, .iload_n 2, 1), (32, .iadd, 1), (33, .ldc 51, 2), (35, .if_icmp .le 5, 3), (38, .iconst 0, 1), (39, .ireturn, 1), (40, .aload_n 0, 1), (41, .getfield 7, 3), (44, .iload_n 1, 1), (45, .dup2, 1), (46, .iaload, 1), (47, .iload_n 2, 1), (48, .iadd, 1), (49, .iastore, 1), (50, .iconst 1, 1), (51, .ireturn, 1)]
set_option maxRecDepth 100000 in
theorem hc_M_fund : ∀ q ∈ cd_M_fund, decode m_M_fund.2.1 q.1 = .ok (q.2.1, q.2.2) := by decide +kernel
theorem g_M_fund : am_good K0 m_M_fund 2 := ⟨tw 367 rfl rfl, tw 4 rfl rfl, by decide +kernel, by decide⟩
def m_M_bidder : am_M := (⟨"BundleAuctionModel", "bidder", "(I)Z"⟩, prog_5_method_2_code, 1, some .boolean)
def cd_M_bidder : List (Nat × Instr × Nat) := [(0, .iload_n 0, 1), (1, .ifCond .lt 12, 3), (4, .iload_n 0, 1), (5, .iconst 4, 1), (6, .if_icmp .gt 7, 3), (9, .iconst 1, 1), (10, .goto 4, 3), (13, .iconst 0, 1), (14, .ireturn, 1)]
set_option maxRecDepth 100000 in
theorem hc_M_bidder : ∀ q ∈ cd_M_bidder, decode m_M_bidder.2.1 q.1 = .ok (q.2.1, q.2.2) := by decide +kernel
theorem g_M_bidder : am_good K0 m_M_bidder 1 := ⟨tw 370 rfl rfl, tw 4 rfl rfl, by decide +kernel, by decide⟩
def m_M_deposit : am_M := (⟨"BundleAuctionModel", "deposit", "(II)Z"⟩, prog_5_method_4_code, 3, some .boolean)
def cd_M_deposit : List (Nat × Instr × Nat) := [(0, .aload_n 0, 1), (1, .getfield 52, 3), (4, .ifCond .ne 25, 3), (7, .iload_n 1, 1), (8, .invokestatic 46, 3), (11, .ifCond .eq 18, 3), (14, .iload_n 2, 1), (15, .iconst 1, 1), (16, .if_icmp .lt 13, 3), (19, .aload_n 0, 1), (20, .getfield 7, 3), (23, .iload_n 1, 1), (24, .iaload, 1), (25, .iload_n 2, 1), (26, .if_icmp .ge 5, 3), (29, .iconst 0, 1), (30, .ireturn, 1), (31, .aload_n 0, 1), (32, .getfield 7, 3), (35, .iload_n 1, 1), (36, .dup2, 1), (37, .iaload, 1), (38, .iload_n 2, 1), (39, .isub, 1), (40, .iastore, 1), (41, .aload_n 0, 1), (42, .getfield 13, 3), (45, .iload_n 1, 1), (46, .dup2, 1), (47, .iaload, 1), (48, .iload_n 2, 1), (49, .iadd, 1), (50, .iastore, 1), (51, .iconst 1, 1), (52, .ireturn, 1)]
set_option maxRecDepth 100000 in
theorem hc_M_deposit : ∀ q ∈ cd_M_deposit, decode m_M_deposit.2.1 q.1 = .ok (q.2.1, q.2.2) := by decide +kernel
theorem g_M_deposit : am_good K0 m_M_deposit 2 := ⟨tw 376 rfl rfl, tw 4 rfl rfl, by decide +kernel, by decide⟩
def m_M_withdraw : am_M := (⟨"BundleAuctionModel", "withdraw", "(I)Z"⟩, prog_5_method_6_code, 2, some .boolean)
def cd_M_withdraw : List (Nat × Instr × Nat) := [(0, .aload_n 0, 1), (1, .getfield 52, 3), (4, .ifCond .ne 10, 3), (7, .iload_n 1, 1), (8, .invokestatic 46, 3), (11, .ifCond .ne 5, 3), (14, .iconst 0, 1), (15, .ireturn, 1), (16, .aload_n 0, 1), (17, .iload_n 1, 1), (18, .invokevirtual 56, 3), (21, .aload_n 0, 1), (22, .getfield 7, 3), (25, .iload_n 1, 1), (26, .dup2, 1), (27, .iaload, 1), (28, .aload_n 0, 1), (29, .getfield 13, 3), (32, .iload_n 1, 1), (33, .iaload, 1), (34, .iadd, 1), (35, .iastore, 1), (36, .aload_n 0, 1), (37, .getfield 13, 3), (40, .iload_n 1, 1), (41, .iconst 0, 1), (42, .iastore, 1), (43, .iconst 1, 1), (44, .ireturn, 1)]
set_option maxRecDepth 100000 in
theorem hc_M_withdraw : ∀ q ∈ cd_M_withdraw, decode m_M_withdraw.2.1 q.1 = .ok (q.2.1, q.2.2) := by decide +kernel
theorem g_M_withdraw : am_good K0 m_M_withdraw 1 := ⟨tw 380 rfl rfl, tw 4 rfl rfl, by decide +kernel, by decide⟩
def m_M_drop : am_M := (⟨"BundleAuctionModel", "drop", "(I)V"⟩, prog_5_method_5_code, 3, none)
def cd_M_drop : List (Nat × Instr × Nat) := [(0, .aload_n 0, 1), (1, .getfield 25, 3), (4, .iload_n 1, 1), (5, .iconst 0, 1), (6, .iastore, 1), (7, .iconst 0, 1), (8, .istore_n 2, 1), (9, .iload_n 2, 1), (10, .bipush 64, 2), (12, .if_icmp .ge 21, 3), (15, .aload_n 0, 1), (16, .getfield 22, 3), (19, .bipush 64, 2), (21, .iload_n 1, 1), (22, .imul, 1), (23, .iload_n 2, 1), (24, .iadd, 1), (25, .iconst 0, 1), (26, .iastore, 1), (27, .iinc 2 1, 3), (30, .goto (-21), 3), (33, .return_, 1)]
set_option maxRecDepth 100000 in
theorem hc_M_drop : ∀ q ∈ cd_M_drop, decode m_M_drop.2.1 q.1 = .ok (q.2.1, q.2.2) := by decide +kernel
theorem g_M_drop : am_good K0 m_M_drop 1 := ⟨tw 384 rfl rfl, tw 4 rfl rfl, by decide +kernel, by decide⟩
def m_M_reserve : am_M := (⟨"BundleAuctionModel", "reserve", "(II)Z"⟩, prog_5_method_7_code, 3, some .boolean)
def cd_M_reserve : List (Nat × Instr × Nat) := [(0, .aload_n 0, 1), (1, .getfield 52, 3), (4, .ifCond .ne 23, 3), (7, .iload_n 1, 1), (8, .ifCond .lt 19, 3), (11, .iload_n 1, 1), (12, .iconst 5, 1), (13, .if_icmp .gt 14, 3), (16, .iload_n 2, 1), (17, .ifCond .lt 10, 3), (20, .iload_n 2, 1), (21, .sipush 999, 3), (24, .if_icmp .le 5, 3), (27, .iconst 0, 1), (28, .ireturn, 1), (29, .aload_n 0, 1), (30, .getfield 16, 3), (33, .iload_n 1, 1), (34, .iload_n 2, 1), (35, .iastore, 1), (36, .iconst 1, 1), (37, .ireturn, 1)]
set_option maxRecDepth 100000 in
theorem hc_M_reserve : ∀ q ∈ cd_M_reserve, decode m_M_reserve.2.1 q.1 = .ok (q.2.1, q.2.2) := by decide +kernel
theorem g_M_reserve : am_good K0 m_M_reserve 2 := ⟨tw 388 rfl rfl, tw 4 rfl rfl, by decide +kernel, by decide⟩
def m_M_type : am_M := (⟨"BundleAuctionModel", "type", "(C)Z"⟩, prog_5_method_8_code, 2, some .boolean)
def cd_M_type : List (Nat × Instr × Nat) := [(0, .iload_n 1, 1), (1, .bipush 32, 2), (3, .if_icmp .lt 18, 3), (6, .iload_n 1, 1), (7, .bipush 126, 2), (9, .if_icmp .gt 12, 3), (12, .aload_n 0, 1), (13, .getfield 60, 3), (16, .bipush 40, 2), (18, .if_icmp .ne 5, 3), (21, .iconst 0, 1), (22, .ireturn, 1), (23, .aload_n 0, 1), (24, .getfield 19, 3), (27, .aload_n 0, 1), (28, .getfield 60, 3), (31, .iload_n 1, 1), (32, .iastore, 1), (33, .aload_n 0, 1), (34, .dup, 1), (35, .getfield 60, 3), (38, .iconst 1, 1), (39, .iadd, 1), (40, .putfield 60, 3), (43, .iconst 1, 1), (44, .ireturn, 1)]
set_option maxRecDepth 100000 in
theorem hc_M_type : ∀ q ∈ cd_M_type, decode m_M_type.2.1 q.1 = .ok (q.2.1, q.2.2) := by decide +kernel
theorem g_M_type : am_good K0 m_M_type 1 := ⟨tw 392 rfl rfl, tw 4 rfl rfl, by decide +kernel, by decide⟩
def m_M_submit : am_M := (⟨"BundleAuctionModel", "submit", "(I)I"⟩, prog_5_method_18_code, 4, some .int)
def cd_M_submit : List (Nat × Instr × Nat) := [(0, .aload_n 0, 1), (1, .getfield 52, 3), (4, .ifCond .ne 10, 3), (7, .iload_n 1, 1), (8, .invokestatic 46, 3), (11, .ifCond .ne 6, 3), (14, .bipush (-2), 2), (16, .ireturn, 1), (17, .aload_n 0, 1), (18, .invokevirtual 99, 3), (21, .istore_n 2, 1), (22, .iload_n 2, 1), (23, .ifCond .ge 7, 3), (26, .aload_n 0, 1), (27, .invokevirtual 102, 3), (30, .aload_n 0, 1), (31, .iconst 0, 1), (32, .putfield 60, 3), (35, .iload_n 2, 1), (36, .ifCond .lt 5, 3), (39, .iload_n 2, 1), (40, .ireturn, 1), (41, .aload_n 0, 1), (42, .getfield 28, 3), (45, .bipush 63, 2), (47, .iaload, 1), (48, .aload_n 0, 1), (49, .getfield 13, 3), (52, .iload_n 1, 1), (53, .iaload, 1), (54, .if_icmp .le 6, 3), (57, .bipush (-3), 2), (59, .ireturn, 1), (60, .iconst 0, 1), (61, .istore_n 3, 1), (62, .iload_n 3, 1), (63, .bipush 64, 2), (65, .if_icmp .ge 26, 3), (68, .aload_n 0, 1), (69, .getfield 22, 3), (72, .bipush 64, 2), (74, .iload_n 1, 1), (75, .imul, 1), (76, .iload_n 3, 1), (77, .iadd, 1), (78, .aload_n 0, 1), (79, .getfield 28, 3), (82, .iload_n 3, 1), (83, .iaload, 1), (84, .iastore, 1), (85, .iinc 3 1, 3), (88, .goto (-26), 3), (91, .aload_n 0, 1), (92, .getfield 25, 3), (95, .iload_n 1, 1), (96, .aload_n 0, 1), (97, .getfield 64, 3), (100, .iastore, 1), (101, .iconst (-1), 1), (102, .ireturn, 1)]
set_option maxRecDepth 100000 in
theorem hc_M_submit : ∀ q ∈ cd_M_submit, decode m_M_submit.2.1 q.1 = .ok (q.2.1, q.2.2) := by decide +kernel
theorem g_M_submit : am_good K0 m_M_submit 1 := ⟨tw 396 rfl rfl, tw 4 rfl rfl, by decide +kernel, by decide⟩
def m_M_fault : am_M := (⟨"BundleAuctionModel", "fault", "()I"⟩, prog_5_method_11_code, 8, some .int)
def cd_M_fault : List (Nat × Instr × Nat) := [(0, .iconst 0, 1), (1, .istore_n 1, 1), (2, .iconst 0, 1), (3, .istore_n 2, 1), (4, .iconst 0, 1), (5, .istore_n 3, 1), (6, .aload_n 0, 1), (7, .iconst 0, 1), (8, .putfield 64, 3), (11, .iconst 0, 1), (12, .istore 4, 2), (14, .iload 4, 2), (16, .aload_n 0, 1), (17, .getfield 60, 3), (20, .if_icmp .ge 310, 3), (23, .aload_n 0, 1), (24, .getfield 19, 3), (27, .iload 4, 2), (29, .iaload, 1), (30, .istore 5, 2), (32, .iconst (-1), 1), (33, .istore 6, 2), (35, .iload_n 1, 1), (36, .ifCond .ne 82, 3), (39, .aload_n 0, 1), (40, .iload 4, 2), (42, .invokevirtual 67, 3), (45, .ifCond .eq 7, 3), (48, .iconst 1, 1), (49, .goto 21, 3), (52, .iload 5, 2), (54, .bipush 40, 2), (56, .if_icmp .ne 13, 3), (59, .iload_n 3, 1), (60, .bipush 8, 2), (62, .if_icmp .ge 7, 3), (65, .iconst 0, 1), (66, .goto 4, 3), (69, .iconst (-1), 1), (70, .istore 6, 2), (72, .iload 5, 2), (74, .bipush 40, 2), (76, .if_icmp .ne 9, 3), (79, .iload_n 3, 1), (80, .iconst 1, 1), (81, .iadd, 1), (82, .goto 4, 3), (85, .iload_n 3, 1), (86, .istore_n 3, 1), (87, .aload_n 0, 1), (88, .aload_n 0, 1), (89, .iload 4, 2), (91, .invokevirtual 67, 3), (94, .ifCond .eq 12, 3), (97, .aload_n 0, 1), (98, .getfield 64, 3), (101, .iconst 1, 1), (102, .iadd, 1), (103, .goto 7, 3), (106, .aload_n 0, 1), (107, .getfield 64, 3), (110, .putfield 64, 3), (113, .iconst 0, 1), (114, .istore_n 2, 1), (115, .goto 189, 3), (118, .aload_n 0, 1), (119, .iload 4, 2), (121, .invokevirtual 67, 3), (124, .ifCond .eq 37, 3), (127, .iload_n 1, 1), (128, .iconst 1, 1), (129, .if_icmp .eq 20, 3), (132, .iload_n 1, 1), (133, .iconst 2, 1), (134, .if_icmp .eq 15, 3), (137, .iload_n 1, 1), (138, .bipush 6, 2), (140, .if_icmp .lt 15, 3), (143, .iload_n 1, 1), (144, .bipush 8, 2), (146, .if_icmp .gt 9, 3), (149, .iload_n 1, 1), (150, .iconst 1, 1), (151, .iadd, 1), (152, .goto 4, 3), (155, .iconst (-1), 1), (156, .istore 6, 2), (158, .goto 146, 3), (161, .aload_n 0, 1), (162, .iload 4, 2), (164, .invokevirtual 70, 3), (167, .ifCond .eq 39, 3), (170, .iconst 1, 1), (171, .iload 5, 2), (173, .bipush 97, 2), (175, .isub, 1), (176, .ishl, 1), (177, .istore 7, 2), (179, .iload_n 1, 1), (180, .iconst 4, 1), (181, .if_icmp .gt 14, 3), (184, .iload_n 2, 1), (185, .iload 7, 2), (187, .iand, 1), (188, .ifCond .ne 7, 3), (191, .iconst 4, 1), (192, .goto 4, 3), (195, .iconst (-1), 1), (196, .istore 6, 2), (198, .iload_n 2, 1), (199, .iload 7, 2), (201, .ior, 1), (202, .istore_n 2, 1), (203, .goto 101, 3), (206, .iload_n 1, 1), (207, .iconst 4, 1), (208, .if_icmp .lt 96, 3), (211, .iload_n 1, 1), (212, .bipush 6, 2), (214, .if_icmp .eq 90, 3), (217, .iload 5, 2), (219, .bipush 43, 2), (221, .if_icmp .eq 10, 3), (224, .iload 5, 2), (226, .bipush 94, 2), (228, .if_icmp .ne 7, 3), (231, .iconst 0, 1), (232, .goto 31, 3), (235, .iload 5, 2), (237, .bipush 60, 2), (239, .if_icmp .ne 8, 3), (242, .bipush 6, 2), (244, .goto 19, 3), (247, .iload 5, 2), (249, .bipush 41, 2), (251, .if_icmp .ne 11, 3), (254, .iload_n 3, 1), (255, .ifCond .le 7, 3), (258, .iconst 5, 1), (259, .goto 4, 3), (262, .iconst (-1), 1), (263, .istore 6, 2), (265, .iload 5, 2), (267, .bipush 41, 2), (269, .if_icmp .ne 9, 3), (272, .iload_n 3, 1), (273, .iconst 1, 1), (274, .isub, 1), (275, .goto 4, 3), (278, .iload_n 3, 1), (279, .istore_n 3, 1), (280, .aload_n 0, 1), (281, .iload 5, 2), (283, .bipush 41, 2), (285, .if_icmp .ne 10, 3), (288, .aload_n 0, 1), (289, .getfield 64, 3), (292, .goto 9, 3), (295, .aload_n 0, 1), (296, .getfield 64, 3), (299, .iconst 1, 1), (300, .iadd, 1), (301, .putfield 64, 3), (304, .iload 6, 2), (306, .ifCond .lt 12, 3), (309, .aload_n 0, 1), (310, .getfield 64, 3), (313, .bipush 12, 2), (315, .if_icmp .le 6, 3), (318, .iload 4, 2), (320, .ireturn, 1), (321, .iload 6, 2), (323, .istore_n 1, 1), (324, .iinc 4 1, 3), (327, .goto (-313), 3), (330, .iload_n 3, 1), (331, .ifCond .ne 18, 3), (334, .iload_n 1, 1), (335, .iconst 4, 1), (336, .if_icmp .lt 13, 3), (339, .iload_n 1, 1), (340, .bipush 6, 2), (342, .if_icmp .eq 7, 3), (345, .iconst (-1), 1), (346, .goto 7, 3), (349, .aload_n 0, 1), (350, .getfield 60, 3), (353, .ireturn, 1)]
set_option maxRecDepth 100000 in
theorem hc_M_fault : ∀ q ∈ cd_M_fault, decode m_M_fault.2.1 q.1 = .ok (q.2.1, q.2.2) := by decide +kernel
theorem g_M_fault : am_good K0 m_M_fault 0 := ⟨tw 400 rfl rfl, tw 4 rfl rfl, by decide +kernel, by decide⟩
def m_M_digit : am_M := (⟨"BundleAuctionModel", "digit", "(I)Z"⟩, prog_5_method_9_code, 2, some .boolean)
def cd_M_digit : List (Nat × Instr × Nat) := [(0, .iload_n 1, 1), (1, .aload_n 0, 1), (2, .getfield 60, 3), (5, .if_icmp .ge 29, 3), (8, .aload_n 0, 1), (9, .getfield 19, 3), (12, .iload_n 1, 1), (13, .iaload, 1), (14, .bipush 48, 2), (16, .if_icmp .lt 18, 3), (19, .aload_n 0, 1), (20, .getfield 19, 3), (23, .iload_n 1, 1), (24, .iaload, 1), (25, .bipush 57, 2), (27, .if_icmp .gt 7, 3), (30, .iconst 1, 1), (31, .goto 4, 3), (34, .iconst 0, 1), (35, .ireturn, 1)]
set_option maxRecDepth 100000 in
theorem hc_M_digit : ∀ q ∈ cd_M_digit, decode m_M_digit.2.1 q.1 = .ok (q.2.1, q.2.2) := by decide +kernel
theorem g_M_digit : am_good K0 m_M_digit 1 := ⟨tw 404 rfl rfl, tw 4 rfl rfl, by decide +kernel, by decide⟩
def m_M_letter : am_M := (⟨"BundleAuctionModel", "letter", "(I)Z"⟩, prog_5_method_10_code, 2, some .boolean)
def cd_M_letter : List (Nat × Instr × Nat) := [(0, .iload_n 1, 1), (1, .aload_n 0, 1), (2, .getfield 60, 3), (5, .if_icmp .ge 29, 3), (8, .aload_n 0, 1), (9, .getfield 19, 3), (12, .iload_n 1, 1), (13, .iaload, 1), (14, .bipush 97, 2), (16, .if_icmp .lt 18, 3), (19, .aload_n 0, 1), (20, .getfield 19, 3), (23, .iload_n 1, 1), (24, .iaload, 1), (25, .bipush 102, 2), (27, .if_icmp .gt 7, 3), (30, .iconst 1, 1), (31, .goto 4, 3), (34, .iconst 0, 1), (35, .ireturn, 1)]
set_option maxRecDepth 100000 in
theorem hc_M_letter : ∀ q ∈ cd_M_letter, decode m_M_letter.2.1 q.1 = .ok (q.2.1, q.2.2) := by decide +kernel
theorem g_M_letter : am_good K0 m_M_letter 1 := ⟨tw 408 rfl rfl, tw 4 rfl rfl, by decide +kernel, by decide⟩
def m_M_read : am_M := (⟨"BundleAuctionModel", "read", "()V"⟩, prog_5_method_17_code, 4, none)
def cd_M_read : List (Nat × Instr × Nat) := [(0, .aload_n 0, 1), (1, .iconst 0, 1), (2, .putfield 80, 3), (5, .aload_n 0, 1), (6, .iconst 0, 1), (7, .putfield 83, 3), (10, .aload_n 0, 1), (11, .iconst 0, 1), (12, .putfield 73, 3), (15, .aload_n 0, 1), (16, .getfield 73, 3), (19, .aload_n 0, 1), (20, .getfield 60, 3), (23, .if_icmp .ge 169, 3), (26, .aload_n 0, 1), (27, .getfield 19, 3), (30, .aload_n 0, 1), (31, .getfield 73, 3), (34, .iaload, 1), (35, .istore_n 1, 1), (36, .aload_n 0, 1), (37, .aload_n 0, 1), (38, .getfield 73, 3), (41, .invokevirtual 67, 3), (44, .ifCond .eq 10, 3), (47, .aload_n 0, 1), (48, .invokevirtual 89, 3), (51, .goto 138, 3), (54, .aload_n 0, 1), (55, .dup, 1), (56, .getfield 73, 3), (59, .iconst 1, 1), (60, .iadd, 1), (61, .putfield 73, 3), (64, .iload_n 1, 1), (65, .bipush 40, 2), (67, .if_icmp .ne 11, 3), (70, .aload_n 0, 1), (71, .iload_n 1, 1), (72, .invokevirtual 92, 3), (75, .goto 114, 3), (78, .iload_n 1, 1), (79, .bipush 60, 2), (81, .if_icmp .ne 64, 3), (84, .aload_n 0, 1), (85, .invokevirtual 76, 3), (88, .istore_n 2, 1), (89, .bipush 64, 2), (91, .aload_n 0, 1), (92, .getfield 80, 3), (95, .iconst 1, 1), (96, .isub, 1), (97, .imul, 1), (98, .istore_n 3, 1), (99, .iload_n 3, 1), (100, .bipush 64, 2), (102, .aload_n 0, 1), (103, .getfield 80, 3), (106, .imul, 1), (107, .if_icmp .ge 35, 3), (110, .aload_n 0, 1), (111, .getfield 28, 3), (114, .iload_n 3, 1), (115, .aload_n 0, 1), (116, .getfield 28, 3), (119, .iload_n 3, 1), (120, .iaload, 1), (121, .iload_n 2, 1), (122, .if_icmp .le 7, 3), (125, .iload_n 2, 1), (126, .goto 9, 3), (129, .aload_n 0, 1), (130, .getfield 28, 3), (133, .iload_n 3, 1), (134, .iaload, 1), (135, .iastore, 1), (136, .iinc 3 1, 3), (139, .goto (-40), 3), (142, .goto 47, 3), (145, .iload_n 1, 1), (146, .bipush 41, 2), (148, .if_icmp .ne 21, 3), (151, .aload_n 0, 1), (152, .iconst 1, 1), (153, .invokevirtual 95, 3), (156, .aload_n 0, 1), (157, .dup, 1), (158, .getfield 83, 3), (161, .iconst 1, 1), (162, .isub, 1), (163, .putfield 83, 3), (166, .goto 23, 3), (169, .aload_n 0, 1), (170, .iload_n 1, 1), (171, .bipush 94, 2), (173, .if_icmp .ne 7, 3), (176, .iconst 1, 1), (177, .goto 4, 3), (180, .iconst 0, 1), (181, .invokevirtual 95, 3), (184, .aload_n 0, 1), (185, .iload_n 1, 1), (186, .invokevirtual 92, 3), (189, .goto (-174), 3), (192, .aload_n 0, 1), (193, .iconst 1, 1), (194, .invokevirtual 95, 3), (197, .return_, 1)]
set_option maxRecDepth 100000 in
theorem hc_M_read : ∀ q ∈ cd_M_read, decode m_M_read.2.1 q.1 = .ok (q.2.1, q.2.2) := by decide +kernel
theorem g_M_read : am_good K0 m_M_read 0 := ⟨tw 412 rfl rfl, tw 4 rfl rfl, by decide +kernel, by decide⟩
def m_M_bundle : am_M := (⟨"BundleAuctionModel", "bundle", "()V"⟩, prog_5_method_13_code, 4, none)
def cd_M_bundle : List (Nat × Instr × Nat) := [(0, .aload_n 0, 1), (1, .invokevirtual 76, 3), (4, .istore_n 1, 1), (5, .iconst 0, 1), (6, .istore_n 2, 1), (7, .aload_n 0, 1), (8, .aload_n 0, 1), (9, .getfield 73, 3), (12, .invokevirtual 70, 3), (15, .ifCond .eq 33, 3), (18, .iload_n 2, 1), (19, .iconst 1, 1), (20, .aload_n 0, 1), (21, .getfield 19, 3), (24, .aload_n 0, 1), (25, .getfield 73, 3), (28, .iaload, 1), (29, .bipush 97, 2), (31, .isub, 1), (32, .ishl, 1), (33, .ior, 1), (34, .istore_n 2, 1), (35, .aload_n 0, 1), (36, .dup, 1), (37, .getfield 73, 3), (40, .iconst 1, 1), (41, .iadd, 1), (42, .putfield 73, 3), (45, .goto (-38), 3), (48, .iconst 0, 1), (49, .istore_n 3, 1), (50, .iload_n 3, 1), (51, .bipush 64, 2), (53, .if_icmp .ge 35, 3), (56, .aload_n 0, 1), (57, .getfield 28, 3), (60, .bipush 64, 2), (62, .aload_n 0, 1), (63, .getfield 80, 3), (66, .imul, 1), (67, .iload_n 3, 1), (68, .iadd, 1), (69, .iload_n 3, 1), (70, .iload_n 2, 1), (71, .iand, 1), (72, .iload_n 2, 1), (73, .if_icmp .ne 7, 3), (76, .iload_n 1, 1), (77, .goto 4, 3), (80, .iconst 0, 1), (81, .iastore, 1), (82, .iinc 3 1, 3), (85, .goto (-35), 3), (88, .aload_n 0, 1), (89, .dup, 1), (90, .getfield 80, 3), (93, .iconst 1, 1), (94, .iadd, 1), (95, .putfield 80, 3), (98, .return_, 1)]
set_option maxRecDepth 100000 in
theorem hc_M_bundle : ∀ q ∈ cd_M_bundle, decode m_M_bundle.2.1 q.1 = .ok (q.2.1, q.2.2) := by decide +kernel
theorem g_M_bundle : am_good K0 m_M_bundle 0 := ⟨tw 416 rfl rfl, tw 4 rfl rfl, by decide +kernel, by decide⟩
def m_M_number : am_M := (⟨"BundleAuctionModel", "number", "()I"⟩, prog_5_method_12_code, 2, some .int)
def cd_M_number : List (Nat × Instr × Nat) := [(0, .iconst 0, 1), (1, .istore_n 1, 1), (2, .aload_n 0, 1), (3, .aload_n 0, 1), (4, .getfield 73, 3), (7, .invokevirtual 67, 3), (10, .ifCond .eq 34, 3), (13, .bipush 10, 2), (15, .iload_n 1, 1), (16, .imul, 1), (17, .aload_n 0, 1), (18, .getfield 19, 3), (21, .aload_n 0, 1), (22, .getfield 73, 3), (25, .iaload, 1), (26, .iadd, 1), (27, .bipush 48, 2), (29, .isub, 1), (30, .istore_n 1, 1), (31, .aload_n 0, 1), (32, .dup, 1), (33, .getfield 73, 3), (36, .iconst 1, 1), (37, .iadd, 1), (38, .putfield 73, 3), (41, .goto (-39), 3), (44, .iload_n 1, 1), (45, .ireturn, 1)]
set_option maxRecDepth 100000 in
theorem hc_M_number : ∀ q ∈ cd_M_number, decode m_M_number.2.1 q.1 = .ok (q.2.1, q.2.2) := by decide +kernel
theorem g_M_number : am_good K0 m_M_number 0 := ⟨tw 420 rfl rfl, tw 4 rfl rfl, by decide +kernel, by decide⟩
def m_M_hold : am_M := (⟨"BundleAuctionModel", "hold", "(I)V"⟩, prog_5_method_16_code, 2, none)
def cd_M_hold : List (Nat × Instr × Nat) := [(0, .aload_n 0, 1), (1, .getfield 34, 3), (4, .aload_n 0, 1), (5, .getfield 83, 3), (8, .iload_n 1, 1), (9, .iastore, 1), (10, .aload_n 0, 1), (11, .dup, 1), (12, .getfield 83, 3), (15, .iconst 1, 1), (16, .iadd, 1), (17, .putfield 83, 3), (20, .return_, 1)]
set_option maxRecDepth 100000 in
theorem hc_M_hold : ∀ q ∈ cd_M_hold, decode m_M_hold.2.1 q.1 = .ok (q.2.1, q.2.2) := by decide +kernel
theorem g_M_hold : am_good K0 m_M_hold 1 := ⟨tw 424 rfl rfl, tw 4 rfl rfl, by decide +kernel, by decide⟩
def m_M_reduce : am_M := (⟨"BundleAuctionModel", "reduce", "(Z)V"⟩, prog_5_method_15_code, 2, none)
def cd_M_reduce : List (Nat × Instr × Nat) := [(0, .aload_n 0, 1), (1, .getfield 83, 3), (4, .ifCond .le 65, 3), (7, .aload_n 0, 1), (8, .getfield 34, 3), (11, .aload_n 0, 1), (12, .getfield 83, 3), (15, .iconst 1, 1), (16, .isub, 1), (17, .iaload, 1), (18, .bipush 43, 2), (20, .if_icmp .eq 23, 3), (23, .iload_n 1, 1), (24, .ifCond .eq 45, 3), (27, .aload_n 0, 1), (28, .getfield 34, 3), (31, .aload_n 0, 1), (32, .getfield 83, 3), (35, .iconst 1, 1), (36, .isub, 1), (37, .iaload, 1), (38, .bipush 94, 2), (40, .if_icmp .ne 29, 3), (43, .aload_n 0, 1), (44, .dup, 1), (45, .getfield 83, 3), (48, .iconst 1, 1), (49, .isub, 1), (50, .putfield 83, 3), (53, .aload_n 0, 1), (54, .aload_n 0, 1), (55, .getfield 34, 3), (58, .aload_n 0, 1), (59, .getfield 83, 3), (62, .iaload, 1), (63, .invokevirtual 86, 3), (66, .goto (-66), 3), (69, .return_, 1)]
set_option maxRecDepth 100000 in
theorem hc_M_reduce : ∀ q ∈ cd_M_reduce, decode m_M_reduce.2.1 q.1 = .ok (q.2.1, q.2.2) := by decide +kernel
theorem g_M_reduce : am_good K0 m_M_reduce 1 := ⟨tw 428 rfl rfl, tw 4 rfl rfl, by decide +kernel, by decide⟩
def m_M_join : am_M := (⟨"BundleAuctionModel", "join", "(I)V"⟩, prog_5_method_14_code, 11, none)
def cd_M_join : List (Nat × Instr × Nat) := [(0, .aload_n 0, 1), (1, .dup, 1), (2, .getfield 80, 3), (5, .iconst 1, 1), (6, .isub, 1), (7, .putfield 80, 3), (10, .bipush 64, 2), (12, .aload_n 0, 1), (13, .getfield 80, 3), (16, .iconst 1, 1), (17, .isub, 1), (18, .imul, 1), (19, .istore_n 2, 1), (20, .bipush 64, 2), (22, .aload_n 0, 1), (23, .getfield 80, 3), (26, .imul, 1), (27, .istore_n 3, 1), (28, .iconst 0, 1), (29, .istore 4, 2), (31, .iload 4, 2), (33, .bipush 64, 2), (35, .if_icmp .ge 180, 3), (38, .aload_n 0, 1), (39, .getfield 28, 3), (42, .iload_n 2, 1), (43, .iload 4, 2), (45, .iadd, 1), (46, .iaload, 1), (47, .aload_n 0, 1), (48, .getfield 28, 3), (51, .iload_n 3, 1), (52, .iload 4, 2), (54, .iadd, 1), (55, .iaload, 1), (56, .if_icmp .le 15, 3), (59, .aload_n 0, 1), (60, .getfield 28, 3), (63, .iload_n 2, 1), (64, .iload 4, 2), (66, .iadd, 1), (67, .iaload, 1), (68, .goto 12, 3), (71, .aload_n 0, 1), (72, .getfield 28, 3), (75, .iload_n 3, 1), (76, .iload 4, 2), (78, .iadd, 1), (79, .iaload, 1), (80, .istore 5, 2), (82, .iconst 0, 1), (83, .istore 6, 2), (85, .iload 6, 2), (87, .sipush 4096, 3), (90, .if_icmp .ge 110, 3), (93, .iload_n 1, 1), (94, .bipush 43, 2), (96, .if_icmp .ne 104, 3), (99, .iload 6, 2), (101, .bipush 63, 2), (103, .iand, 1), (104, .istore 7, 2), (106, .iload 6, 2), (108, .bipush 6, 2), (110, .ishr, 1), (111, .istore 8, 2), (113, .iload 7, 2), (115, .iload 8, 2), (117, .iand, 1), (118, .ifCond .ne 27, 3), (121, .iload 7, 2), (123, .iload 4, 2), (125, .iconst (-1), 1), (126, .ixor, 1), (127, .iand, 1), (128, .ifCond .ne 17, 3), (131, .iload 8, 2), (133, .iload 4, 2), (135, .iconst (-1), 1), (136, .ixor, 1), (137, .iand, 1), (138, .ifCond .ne 7, 3), (141, .iconst 1, 1), (142, .goto 4, 3), (145, .iconst 0, 1), (146, .istore 9, 2), (148, .iload 9, 2), (150, .ifCond .eq 25, 3), (153, .aload_n 0, 1), (154, .getfield 28, 3), (157, .iload_n 2, 1), (158, .iload 7, 2), (160, .iadd, 1), (161, .iaload, 1), (162, .aload_n 0, 1), (163, .getfield 28, 3), (166, .iload_n 3, 1), (167, .iload 8, 2), (169, .iadd, 1), (170, .iaload, 1), (171, .iadd, 1), (172, .goto 4, 3), (175, .iconst 0, 1), (176, .istore 10, 2), (178, .iload 10, 2), (180, .iload 5, 2), (182, .if_icmp .le 8, 3), (185, .iload 10, 2), (187, .goto 5, 3), (190, .iload 5, 2), (192, .istore 5, 2), (194, .iinc 6 1, 3), (197, .goto (-112), 3), (200, .aload_n 0, 1), (201, .getfield 31, 3), (204, .iload 4, 2), (206, .iload 5, 2), (208, .iastore, 1), (209, .iinc 4 1, 3), (212, .goto (-181), 3), (215, .iconst 0, 1), (216, .istore 4, 2), (218, .iload 4, 2), (220, .bipush 64, 2), (222, .if_icmp .ge 25, 3), (225, .aload_n 0, 1), (226, .getfield 28, 3), (229, .iload_n 2, 1), (230, .iload 4, 2), (232, .iadd, 1), (233, .aload_n 0, 1), (234, .getfield 31, 3), (237, .iload 4, 2), (239, .iaload, 1), (240, .iastore, 1), (241, .iinc 4 1, 3), (244, .goto (-26), 3), (247, .return_, 1)]
set_option maxRecDepth 100000 in
theorem hc_M_join : ∀ q ∈ cd_M_join, decode m_M_join.2.1 q.1 = .ok (q.2.1, q.2.2) := by decide +kernel
theorem g_M_join : am_good K0 m_M_join 1 := ⟨tw 432 rfl rfl, tw 4 rfl rfl, by decide +kernel, by decide⟩
def m_M_worth : am_M := (⟨"BundleAuctionModel", "worth", "(II)I"⟩, prog_5_method_19_code, 3, some .int)
def cd_M_worth : List (Nat × Instr × Nat) := [(0, .iload_n 1, 1), (1, .invokestatic 46, 3), (4, .ifCond .eq 13, 3), (7, .iload_n 2, 1), (8, .ifCond .lt 9, 3), (11, .iload_n 2, 1), (12, .bipush 63, 2), (14, .if_icmp .le 8, 3), (17, .bipush (-2), 2), (19, .goto 14, 3), (22, .aload_n 0, 1), (23, .getfield 22, 3), (26, .bipush 64, 2), (28, .iload_n 1, 1), (29, .imul, 1), (30, .iload_n 2, 1), (31, .iadd, 1), (32, .iaload, 1), (33, .ireturn, 1)]
set_option maxRecDepth 100000 in
theorem hc_M_worth : ∀ q ∈ cd_M_worth, decode m_M_worth.2.1 q.1 = .ok (q.2.1, q.2.2) := by decide +kernel
theorem g_M_worth : am_good K0 m_M_worth 2 := ⟨tw 436 rfl rfl, tw 4 rfl rfl, by decide +kernel, by decide⟩
def m_M_parts : am_M := (⟨"BundleAuctionModel", "parts", "(I)I"⟩, prog_5_method_20_code, 2, some .int)
def cd_M_parts : List (Nat × Instr × Nat) := [(0, .iload_n 1, 1), (1, .invokestatic 46, 3), (4, .ifCond .eq 12, 3), (7, .aload_n 0, 1), (8, .getfield 25, 3), (11, .iload_n 1, 1), (12, .iaload, 1), (13, .goto 5, 3), (16, .bipush (-2), 2), (18, .ireturn, 1)]
set_option maxRecDepth 100000 in
theorem hc_M_parts : ∀ q ∈ cd_M_parts, decode m_M_parts.2.1 q.1 = .ok (q.2.1, q.2.2) := by decide +kernel
theorem g_M_parts : am_good K0 m_M_parts 1 := ⟨tw 440 rfl rfl, tw 4 rfl rfl, by decide +kernel, by decide⟩
def m_M_welfare : am_M := (⟨"BundleAuctionModel", "welfare", "(I)I"⟩, prog_5_method_23_code, 3, some .int)
def cd_M_welfare : List (Nat × Instr × Nat) := [(0, .iload_n 1, 1), (1, .iconst (-1), 1), (2, .if_icmp .eq 13, 3), (5, .iload_n 1, 1), (6, .invokestatic 46, 3), (9, .ifCond .ne 6, 3), (12, .bipush (-2), 2), (14, .ireturn, 1), (15, .aload_n 0, 1), (16, .iload_n 1, 1), (17, .invokevirtual 110, 3), (20, .istore_n 2, 1), (21, .aload_n 0, 1), (22, .iload_n 2, 1), (23, .iload_n 1, 1), (24, .invokevirtual 106, 3), (27, .ireturn, 1)]
set_option maxRecDepth 100000 in
theorem hc_M_welfare : ∀ q ∈ cd_M_welfare, decode m_M_welfare.2.1 q.1 = .ok (q.2.1, q.2.2) := by decide +kernel
theorem g_M_welfare : am_good K0 m_M_welfare 1 := ⟨tw 444 rfl rfl, tw 4 rfl rfl, by decide +kernel, by decide⟩
def m_M_bestOf : am_M := (⟨"BundleAuctionModel", "bestOf", "(I)I"⟩, prog_5_method_22_code, 6, some .int)
def cd_M_bestOf : List (Nat × Instr × Nat) := [(0, .iconst (-1), 1), (1, .istore_n 2, 1), (2, .iconst 0, 1), (3, .istore_n 3, 1), (4, .iconst 0, 1), (5, .istore 4, 2), (7, .iload 4, 2), (9, .ldc 105, 2), (11, .if_icmp .ge 30, 3), (14, .aload_n 0, 1), (15, .iload 4, 2), (17, .iload_n 1, 1), (18, .invokevirtual 106, 3), (21, .istore 5, 2), (23, .iload 5, 2), (25, .iload_n 2, 1), (26, .if_icmp .le 9, 3), (29, .iload 5, 2), (31, .istore_n 2, 1), (32, .iload 4, 2), (34, .istore_n 3, 1), (35, .iinc 4 1, 3), (38, .goto (-31), 3), (41, .iload_n 3, 1), (42, .ireturn, 1)]
set_option maxRecDepth 100000 in
theorem hc_M_bestOf : ∀ q ∈ cd_M_bestOf, decode m_M_bestOf.2.1 q.1 = .ok (q.2.1, q.2.2) := by decide +kernel
theorem g_M_bestOf : am_good K0 m_M_bestOf 1 := ⟨tw 448 rfl rfl, tw 4 rfl rfl, by decide +kernel, by decide⟩
def m_M_welfareOf : am_M := (⟨"BundleAuctionModel", "welfareOf", "(II)I"⟩, prog_5_method_21_code, 7, some .int)
def cd_M_welfareOf : List (Nat × Instr × Nat) := [(0, .iconst 0, 1), (1, .istore_n 3, 1), (2, .iload_n 1, 1), (3, .istore 4, 2), (5, .iconst 0, 1), (6, .istore 5, 2), (8, .iload 5, 2), (10, .iconst 5, 1), (11, .if_icmp .ge 17, 3), (14, .aload_n 0, 1), (15, .getfield 37, 3), (18, .iload 5, 2), (20, .iconst 0, 1), (21, .iastore, 1), (22, .iinc 5 1, 3), (25, .goto (-17), 3), (28, .iconst 5, 1), (29, .istore 5, 2), (31, .iload 5, 2), (33, .ifCond .lt 64, 3), (36, .iload 4, 2), (38, .bipush 6, 2), (40, .irem, 1), (41, .istore 6, 2), (43, .iload 4, 2), (45, .bipush 6, 2), (47, .idiv, 1), (48, .istore 4, 2), (50, .iload 6, 2), (52, .ifCond .ne 16, 3), (55, .iload_n 3, 1), (56, .aload_n 0, 1), (57, .getfield 16, 3), (60, .iload 5, 2), (62, .iaload, 1), (63, .iadd, 1), (64, .istore_n 3, 1), (65, .goto 26, 3), (68, .aload_n 0, 1), (69, .getfield 37, 3), (72, .iload 6, 2), (74, .iconst 1, 1), (75, .isub, 1), (76, .aload_n 0, 1), (77, .getfield 37, 3), (80, .iload 6, 2), (82, .iconst 1, 1), (83, .isub, 1), (84, .iaload, 1), (85, .iconst 1, 1), (86, .iload 5, 2), (88, .ishl, 1), (89, .ior, 1), (90, .iastore, 1), (91, .iinc 5 (-1), 3), (94, .goto (-63), 3), (97, .iload_n 2, 1), (98, .ifCond .lt 14, 3), (101, .aload_n 0, 1), (102, .getfield 37, 3), (105, .iload_n 2, 1), (106, .iaload, 1), (107, .ifCond .eq 5, 3), (110, .iconst (-1), 1), (111, .ireturn, 1), (112, .iconst 0, 1), (113, .istore 5, 2), (115, .iload 5, 2), (117, .iconst 5, 1), (118, .if_icmp .ge 30, 3), (121, .iload_n 3, 1), (122, .aload_n 0, 1), (123, .getfield 22, 3), (126, .bipush 64, 2), (128, .iload 5, 2), (130, .imul, 1), (131, .aload_n 0, 1), (132, .getfield 37, 3), (135, .iload 5, 2), (137, .iaload, 1), (138, .iadd, 1), (139, .iaload, 1), (140, .iadd, 1), (141, .istore_n 3, 1), (142, .iinc 5 1, 3), (145, .goto (-30), 3), (148, .iload_n 3, 1), (149, .ireturn, 1)]
set_option maxRecDepth 100000 in
theorem hc_M_welfareOf : ∀ q ∈ cd_M_welfareOf, decode m_M_welfareOf.2.1 q.1 = .ok (q.2.1, q.2.2) := by decide +kernel
theorem g_M_welfareOf : am_good K0 m_M_welfareOf 2 := ⟨tw 453 rfl rfl, tw 4 rfl rfl, by decide +kernel, by decide⟩
def m_M_close : am_M := (⟨"BundleAuctionModel", "close", "()I"⟩, prog_5_method_24_code, 5, some .int)
def cd_M_close : List (Nat × Instr × Nat) := [(0, .aload_n 0, 1), (1, .getfield 52, 3), (4, .ifCond .eq 6, 3), (7, .bipush (-2), 2), (9, .ireturn, 1), (10, .aload_n 0, 1), (11, .iconst 1, 1), (12, .putfield 52, 3), (15, .aload_n 0, 1), (16, .iconst (-1), 1), (17, .invokevirtual 110, 3), (20, .istore_n 1, 1), (21, .aload_n 0, 1), (22, .iload_n 1, 1), (23, .iconst (-1), 1), (24, .invokevirtual 106, 3), (27, .istore_n 2, 1), (28, .iconst 0, 1), (29, .istore_n 3, 1), (30, .iload_n 3, 1), (31, .iconst 5, 1), (32, .if_icmp .ge 50, 3), (35, .aload_n 0, 1), (36, .iload_n 3, 1), (37, .invokevirtual 114, 3), (40, .istore 4, 2), (42, .aload_n 0, 1), (43, .iload_n 1, 1), (44, .iconst (-1), 1), (45, .invokevirtual 106, 3), (48, .pop, 1), (49, .aload_n 0, 1), (50, .getfield 43, 3), (53, .iload_n 3, 1), (54, .iload 4, 2), (56, .iload_n 2, 1), (57, .isub, 1), (58, .aload_n 0, 1), (59, .getfield 22, 3), (62, .bipush 64, 2), (64, .iload_n 3, 1), (65, .imul, 1), (66, .aload_n 0, 1), (67, .getfield 37, 3), (70, .iload_n 3, 1), (71, .iaload, 1), (72, .iadd, 1), (73, .iaload, 1), (74, .iadd, 1), (75, .iastore, 1), (76, .iinc 3 1, 3), (79, .goto (-49), 3), (82, .iload_n 1, 1), (83, .istore_n 3, 1), (84, .iconst 5, 1), (85, .istore 4, 2), (87, .iload 4, 2), (89, .ifCond .lt 27, 3), (92, .aload_n 0, 1), (93, .getfield 40, 3), (96, .iload 4, 2), (98, .iload_n 3, 1), (99, .bipush 6, 2), (101, .irem, 1), (102, .iconst 1, 1), (103, .isub, 1), (104, .iastore, 1), (105, .iload_n 3, 1), (106, .bipush 6, 2), (108, .idiv, 1), (109, .istore_n 3, 1), (110, .iinc 4 (-1), 3), (113, .goto (-26), 3), (116, .iconst 0, 1), (117, .istore 4, 2), (119, .iload 4, 2), (121, .iconst 5, 1), (122, .if_icmp .ge 58, 3), (125, .aload_n 0, 1), (126, .dup, 1), (127, .getfield 117, 3), (130, .aload_n 0, 1), (131, .getfield 43, 3), (134, .iload 4, 2), (136, .iaload, 1), (137, .iadd, 1), (138, .putfield 117, 3), (141, .aload_n 0, 1), (142, .getfield 7, 3), (145, .iload 4, 2), (147, .dup2, 1), (148, .iaload, 1), (149, .aload_n 0, 1), (150, .getfield 13, 3), (153, .iload 4, 2), (155, .iaload, 1), (156, .aload_n 0, 1), (157, .getfield 43, 3), (160, .iload 4, 2), (162, .iaload, 1), (163, .isub, 1), (164, .iadd, 1), (165, .iastore, 1), (166, .aload_n 0, 1), (167, .getfield 13, 3), (170, .iload 4, 2), (172, .iconst 0, 1), (173, .iastore, 1), (174, .iinc 4 1, 3), (177, .goto (-58), 3), (180, .iload_n 2, 1), (181, .ireturn, 1)]
set_option maxRecDepth 100000 in
theorem hc_M_close : ∀ q ∈ cd_M_close, decode m_M_close.2.1 q.1 = .ok (q.2.1, q.2.2) := by decide +kernel
theorem g_M_close : am_good K0 m_M_close 0 := ⟨tw 457 rfl rfl, tw 4 rfl rfl, by decide +kernel, by decide⟩
def m_M_reopen : am_M := (⟨"BundleAuctionModel", "reopen", "()Z"⟩, prog_5_method_25_code, 2, some .boolean)
def cd_M_reopen : List (Nat × Instr × Nat) := [(0, .aload_n 0, 1), (1, .getfield 52, 3), (4, .ifCond .ne 5, 3), (7, .iconst 0, 1), (8, .ireturn, 1), (9, .aload_n 0, 1), (10, .iconst 0, 1), (11, .putfield 52, 3), (14, .iconst 0, 1), (15, .istore_n 1, 1), (16, .iload_n 1, 1), (17, .iconst 5, 1), (18, .if_icmp .ge 14, 3), (21, .aload_n 0, 1), (22, .iload_n 1, 1), (23, .invokevirtual 56, 3), (26, .iinc 1 1, 3), (29, .goto (-13), 3), (32, .iconst 1, 1), (33, .ireturn, 1)]
set_option maxRecDepth 100000 in
theorem hc_M_reopen : ∀ q ∈ cd_M_reopen, decode m_M_reopen.2.1 q.1 = .ok (q.2.1, q.2.2) := by decide +kernel
theorem g_M_reopen : am_good K0 m_M_reopen 0 := ⟨tw 462 rfl rfl, tw 4 rfl rfl, by decide +kernel, by decide⟩
def m_M_owner : am_M := (⟨"BundleAuctionModel", "owner", "(I)I"⟩, prog_5_method_26_code, 2, some .int)
def cd_M_owner : List (Nat × Instr × Nat) := [(0, .aload_n 0, 1), (1, .getfield 52, 3), (4, .ifCond .eq 12, 3), (7, .iload_n 1, 1), (8, .ifCond .lt 8, 3), (11, .iload_n 1, 1), (12, .iconst 5, 1), (13, .if_icmp .le 8, 3), (16, .bipush (-2), 2), (18, .goto 9, 3), (21, .aload_n 0, 1), (22, .getfield 40, 3), (25, .iload_n 1, 1), (26, .iaload, 1), (27, .ireturn, 1)]
set_option maxRecDepth 100000 in
theorem hc_M_owner : ∀ q ∈ cd_M_owner, decode m_M_owner.2.1 q.1 = .ok (q.2.1, q.2.2) := by decide +kernel
theorem g_M_owner : am_good K0 m_M_owner 1 := ⟨tw 466 rfl rfl, tw 4 rfl rfl, by decide +kernel, by decide⟩
def m_M_paid : am_M := (⟨"BundleAuctionModel", "paid", "(I)I"⟩, prog_5_method_27_code, 2, some .int)
def cd_M_paid : List (Nat × Instr × Nat) := [(0, .aload_n 0, 1), (1, .getfield 52, 3), (4, .ifCond .eq 10, 3), (7, .iload_n 1, 1), (8, .invokestatic 46, 3), (11, .ifCond .ne 8, 3), (14, .bipush (-2), 2), (16, .goto 9, 3), (19, .aload_n 0, 1), (20, .getfield 43, 3), (23, .iload_n 1, 1), (24, .iaload, 1), (25, .ireturn, 1)]
set_option maxRecDepth 100000 in
theorem hc_M_paid : ∀ q ∈ cd_M_paid, decode m_M_paid.2.1 q.1 = .ok (q.2.1, q.2.2) := by decide +kernel
theorem g_M_paid : am_good K0 m_M_paid 1 := ⟨tw 470 rfl rfl, tw 4 rfl rfl, by decide +kernel, by decide⟩
def m_M_cash : am_M := (⟨"BundleAuctionModel", "cash", "(I)I"⟩, prog_5_method_28_code, 2, some .int)
def cd_M_cash : List (Nat × Instr × Nat) := [(0, .iload_n 1, 1), (1, .invokestatic 46, 3), (4, .ifCond .eq 12, 3), (7, .aload_n 0, 1), (8, .getfield 7, 3), (11, .iload_n 1, 1), (12, .iaload, 1), (13, .goto 5, 3), (16, .bipush (-2), 2), (18, .ireturn, 1)]
set_option maxRecDepth 100000 in
theorem hc_M_cash : ∀ q ∈ cd_M_cash, decode m_M_cash.2.1 q.1 = .ok (q.2.1, q.2.2) := by decide +kernel
theorem g_M_cash : am_good K0 m_M_cash 1 := ⟨tw 474 rfl rfl, tw 4 rfl rfl, by decide +kernel, by decide⟩
def m_M_escrow : am_M := (⟨"BundleAuctionModel", "escrow", "(I)I"⟩, prog_5_method_29_code, 2, some .int)
def cd_M_escrow : List (Nat × Instr × Nat) := [(0, .iload_n 1, 1), (1, .invokestatic 46, 3), (4, .ifCond .eq 12, 3), (7, .aload_n 0, 1), (8, .getfield 13, 3), (11, .iload_n 1, 1), (12, .iaload, 1), (13, .goto 5, 3), (16, .bipush (-2), 2), (18, .ireturn, 1)]
set_option maxRecDepth 100000 in
theorem hc_M_escrow : ∀ q ∈ cd_M_escrow, decode m_M_escrow.2.1 q.1 = .ok (q.2.1, q.2.2) := by decide +kernel
theorem g_M_escrow : am_good K0 m_M_escrow 1 := ⟨tw 478 rfl rfl, tw 4 rfl rfl, by decide +kernel, by decide⟩
def m_M_seller : am_M := (⟨"BundleAuctionModel", "seller", "()I"⟩, prog_5_method_30_code, 1, some .int)
def cd_M_seller : List (Nat × Instr × Nat) := [(0, .aload_n 0, 1), (1, .getfield 117, 3), (4, .ireturn, 1)]
set_option maxRecDepth 100000 in
theorem hc_M_seller : ∀ q ∈ cd_M_seller, decode m_M_seller.2.1 q.1 = .ok (q.2.1, q.2.2) := by decide +kernel
theorem g_M_seller : am_good K0 m_M_seller 0 := ⟨tw 482 rfl rfl, tw 4 rfl rfl, by decide +kernel, by decide⟩
def m_M_state : am_M := (⟨"BundleAuctionModel", "state", "()I"⟩, prog_5_method_31_code, 1, some .int)
def cd_M_state : List (Nat × Instr × Nat) := [(0, .aload_n 0, 1), (1, .getfield 52, 3), (4, .ifCond .eq 7, 3), (7, .iconst 1, 1), (8, .goto 4, 3), (11, .iconst 0, 1), (12, .ireturn, 1)]
set_option maxRecDepth 100000 in
theorem hc_M_state : ∀ q ∈ cd_M_state, decode m_M_state.2.1 q.1 = .ok (q.2.1, q.2.2) := by decide +kernel
theorem g_M_state : am_good K0 m_M_state 0 := ⟨tw 486 rfl rfl, tw 4 rfl rfl, by decide +kernel, by decide⟩
def m_L_law : am_M := (⟨"BundleAuctionLaw", "law", "([I)Z"⟩, code, 4, some .boolean)
def cd_L_law : List (Nat × Instr × Nat) := [(0, .new 7, 3), (3, .dup, 1), (4, .invokespecial 9, 3), (7, .astore_n 1, 1), (8, .new 10, 3), (11, .dup, 1), (12, .invokespecial 12, 3), (15, .astore_n 2, 1), (16, .iconst 0, 1), (17, .istore_n 3, 1), (18, .iload_n 3, 1), (19, .aload_n 0, 1), (20, .arraylength, 1), (21, .iconst 3, 1), (22, .isub, 1), (23, .if_icmp .gt 492, 3), (26, .aload_n 0, 1), (27, .iload_n 3, 1), (28, .iaload, 1), (29, .bipush 31, 2), (31, .iand, 1), (32, .tableswitch 477 0 16 #[84, 117, 150, 173, 206, 231, 254, 287, 310, 333, 346, 359, 382, 405, 428, 451, 464], 84), (116, .aload_n 1, 1), (117, .aload_n 0, 1), (118, .iload_n 3, 1), (119, .iconst 1, 1), (120, .iadd, 1), (121, .iaload, 1), (122, .aload_n 0, 1), (123, .iload_n 3, 1), (124, .iconst 2, 1), (125, .iadd, 1), (126, .iaload, 1), (127, .invokevirtual 13, 3), (130, .aload_n 2, 1), (131, .aload_n 0, 1), (132, .iload_n 3, 1), (133, .iconst 1, 1), (134, .iadd, 1), (135, .iaload, 1), (136, .aload_n 0, 1), (137, .iload_n 3, 1), (138, .iconst 2, 1), (139, .iadd, 1), (140, .iaload, 1), (141, .invokevirtual 17, 3), (144, .if_icmp .eq 365, 3), (147, .iconst 0, 1), (148, .ireturn, 1), (149, .aload_n 1, 1), (150, .aload_n 0, 1), (151, .iload_n 3, 1), (152, .iconst 1, 1), (153, .iadd, 1), (154, .iaload, 1), (155, .aload_n 0, 1), (156, .iload_n 3, 1), (157, .iconst 2, 1), (158, .iadd, 1), (159, .iaload, 1), (160, .invokevirtual 18, 3), (163, .aload_n 2, 1), (164, .aload_n 0, 1), (165, .iload_n 3, 1), (166, .iconst 1, 1), (167, .iadd, 1), (168, .iaload, 1), (169, .aload_n 0, 1), (170, .iload_n 3, 1), (171, .iconst 2, 1), (172, .iadd, 1), (173, .iaload, 1), (174, .invokevirtual 21, 3), (177, .if_icmp .eq 332, 3), (180, .iconst 0, 1), (181, .ireturn, 1), (182, .aload_n 1, 1), (183, .aload_n 0, 1), (184, .iload_n 3, 1), (185, .iconst 1, 1), (186, .iadd, 1), (187, .iaload, 1), (188, .invokevirtual 22, 3), (191, .aload_n 2, 1), (192, .aload_n 0, 1), (193, .iload_n 3, 1), (194, .iconst 1, 1), (195, .iadd, 1), (196, .iaload, 1), (197, .invokevirtual 26, 3), (200, .if_icmp .eq 309, 3), (203, .iconst 0, 1), (204, .ireturn, 1), (205, .aload_n 1, 1), (206, .aload_n 0, 1), (207, .iload_n 3, 1), (208, .iconst 1, 1), (209, .iadd, 1), (210, .iaload, 1), (211, .aload_n 0, 1), (212, .iload_n 3, 1), (213, .iconst 2, 1), (214, .iadd, 1), (215, .iaload, 1), (216, .invokevirtual 27, 3), (219, .aload_n 2, 1), (220, .aload_n 0, 1), (221, .iload_n 3, 1), (222, .iconst 1, 1), (223, .iadd, 1), (224, .iaload, 1), (225, .aload_n 0, 1), (226, .iload_n 3, 1), (227, .iconst 2, 1), (228, .iadd, 1), (229, .iaload, 1), (230, .invokevirtual 30, 3), (233, .if_icmp .eq 276, 3), (236, .iconst 0, 1), (237, .ireturn, 1), (238, .aload_n 1, 1), (239, .aload_n 0, 1), (240, .iload_n 3, 1), (241, .iconst 1, 1), (242, .iadd, 1), (243, .iaload, 1), (244, .i2c, 1), (245, .invokevirtual 31, 3), (248, .aload_n 2, 1), (249, .aload_n 0, 1), (250, .iload_n 3, 1), (251, .iconst 1, 1), (252, .iadd, 1), (253, .iaload, 1), (254, .i2c, 1), (255, .invokevirtual 35, 3), (258, .if_icmp .eq 251, 3), (261, .iconst 0, 1), (262, .ireturn, 1), (263, .aload_n 1, 1), (264, .aload_n 0, 1), (265, .iload_n 3, 1), (266, .iconst 1, 1), (267, .iadd, 1), (268, .iaload, 1), (269, .invokevirtual 36, 3), (272, .aload_n 2, 1), (273, .aload_n 0, 1), (274, .iload_n 3, 1), (275, .iconst 1, 1), (276, .iadd, 1), (277, .iaload, 1), (278, .invokevirtual 40, 3), (281, .if_icmp .eq 228, 3), (284, .iconst 0, 1), (285, .ireturn, 1), (286, .aload_n 1, 1), (287, .aload_n 0, 1), (288, .iload_n 3, 1), (289, .iconst 1, 1), (290, .iadd, 1), (291, .iaload, 1), (292, .aload_n 0, 1), (293, .iload_n 3, 1), (294, .iconst 2, 1), (295, .iadd, 1), (296, .iaload, 1), (297, .invokevirtual 41, 3), (300, .aload_n 2, 1), (301, .aload_n 0, 1), (302, .iload_n 3, 1), (303, .iconst 1, 1), (304, .iadd, 1), (305, .iaload, 1), (306, .aload_n 0, 1), (307, .iload_n 3, 1), (308, .iconst 2, 1), (309, .iadd, 1), (310, .iaload, 1), (311, .invokevirtual 45, 3), (314, .if_icmp .eq 195, 3), (317, .iconst 0, 1), (318, .ireturn, 1), (319, .aload_n 1, 1), (320, .aload_n 0, 1), (321, .iload_n 3, 1), (322, .iconst 1, 1), (323, .iadd, 1), (324, .iaload, 1), (325, .invokevirtual 46, 3), (328, .aload_n 2, 1), (329, .aload_n 0, 1), (330, .iload_n 3, 1), (331, .iconst 1, 1), (332, .iadd, 1), (333, .iaload, 1), (334, .invokevirtual 49, 3), (337, .if_icmp .eq 172, 3), (340, .iconst 0, 1), (341, .ireturn, 1), (342, .aload_n 1, 1), (343, .aload_n 0, 1), (344, .iload_n 3, 1), (345, .iconst 1, 1), (346, .iadd, 1), (347, .iaload, 1), (348, .invokevirtual 50, 3), (351, .aload_n 2, 1), (352, .aload_n 0, 1), (353, .iload_n 3, 1), (354, .iconst 1, 1), (355, .iadd, 1), (356, .iaload, 1), (357, .invokevirtual 53, 3), (360, .if_icmp .eq 149, 3), (363, .iconst 0, 1), (364, .ireturn, 1), (365, .aload_n 1, 1), (366, .invokevirtual 54, 3), (369, .aload_n 2, 1), (370, .invokevirtual 58, 3), (373, .if_icmp .eq 136, 3), (376, .iconst 0, 1), (377, .ireturn, 1), (378, .aload_n 1, 1), (379, .invokevirtual 59, 3), (382, .aload_n 2, 1), (383, .invokevirtual 63, 3), (386, .if_icmp .eq 123, 3), (389, .iconst 0, 1), (390, .ireturn, 1), (391, .aload_n 1, 1), (392, .aload_n 0, 1), (393, .iload_n 3, 1), (394, .iconst 1, 1), (395, .iadd, 1), (396, .iaload, 1), (397, .invokevirtual 64, 3), (400, .aload_n 2, 1), (401, .aload_n 0, 1), (402, .iload_n 3, 1), (403, .iconst 1, 1), (404, .iadd, 1), (405, .iaload, 1), (406, .invokevirtual 67, 3), (409, .if_icmp .eq 100, 3), (412, .iconst 0, 1), (413, .ireturn, 1), (414, .aload_n 1, 1), (415, .aload_n 0, 1), (416, .iload_n 3, 1), (417, .iconst 1, 1), (418, .iadd, 1), (419, .iaload, 1), (420, .invokevirtual 68, 3), (423, .aload_n 2, 1), (424, .aload_n 0, 1), (425, .iload_n 3, 1), (426, .iconst 1, 1), (427, .iadd, 1), (428, .iaload, 1), (429, .invokevirtual 71, 3), (432, .if_icmp .eq 77, 3), (435, .iconst 0, 1), (436, .ireturn, 1), (437, .aload_n 1, 1), (438, .aload_n 0, 1), (439, .iload_n 3, 1), (440, .iconst 1, 1), (441, .iadd, 1), (442, .iaload, 1), (443, .invokevirtual 72, 3), (446, .aload_n 2, 1), (447, .aload_n 0, 1), (448, .iload_n 3, 1), (449, .iconst 1, 1), (450, .iadd, 1), (451, .iaload, 1), (452, .invokevirtual 75, 3), (455, .if_icmp .eq 54, 3), (458, .iconst 0, 1), (459, .ireturn, 1), (460, .aload_n 1, 1), (461, .aload_n 0, 1), (462, .iload_n 3, 1), (463, .iconst 1, 1), (464, .iadd, 1), (465, .iaload, 1), (466, .invokevirtual 76, 3), (469, .aload_n 2, 1), (470, .aload_n 0, 1), (471, .iload_n 3, 1), (472, .iconst 1, 1), (473, .iadd, 1), (474, .iaload, 1), (475, .invokevirtual 79, 3), (478, .if_icmp .eq 31, 3), (481, .iconst 0, 1), (482, .ireturn, 1), (483, .aload_n 1, 1), (484, .invokevirtual 80, 3), (487, .aload_n 2, 1), (488, .invokevirtual 83, 3), (491, .if_icmp .eq 18, 3), (494, .iconst 0, 1), (495, .ireturn, 1), (496, .aload_n 1, 1), (497, .invokevirtual 84, 3), (500, .aload_n 2, 1), (501, .invokevirtual 87, 3), (504, .if_icmp .eq 5, 3), (507, .iconst 0, 1), (508, .ireturn, 1), (509, .iinc 3 3, 3), (512, .goto (-494), 3), (515, .iconst 1, 1), (516, .ireturn, 1)]
set_option maxRecDepth 100000 in
theorem hc_L_law : ∀ q ∈ cd_L_law, decode m_L_law.2.1 q.1 = .ok (q.2.1, q.2.2) := by decide +kernel
end
section
/-! contracts with one end, weaker locals, small ints -/
def am_Ret (r0 : Option Value) (S : am_S) (n : Nat) (d : am_D) : Option Value → am_S → Nat → am_D → Prop := fun r S' n' d' => r = r0 ∧ S' = S ∧ n' = n ∧ d' = d
def am_sub : List (Option Value) → List (Option Value) → Prop
  | [], _ => True
  | none :: l, m => am_sub l m.tail
  | some v :: l, m => m.head? = some (some v) ∧ am_sub l m.tail
theorem am_sub_at : ∀ (l m : List (Option Value)), am_sub l m → ∀ (i : Nat) (v : Value), l[i]? = some (some v) → m[i]? = some (some v)
  | [], _, _, i, v, h => by simp at h
  | none :: l, m, hs, i, v, h => by
    cases i with
    | zero => simp at h
    | succ i =>
      have := am_sub_at l m.tail hs i v (by simpa using h)
      cases m with
      | nil => simp at this
      | cons a m => simpa using this
  | some w :: l, m, hs, i, v, h => by
    cases i with
    | zero =>
      simp at h; subst h
      have := hs.1
      cases m with
      | nil => simp at this
      | cons a m => simpa using this
    | succ i =>
      have := am_sub_at l m.tail hs.2 i v (by simpa using h)
      cases m with
      | nil => simp at this
      | cons a m => simpa using this
theorem am_weak {l : Launch} {C : am_Cfg} {x : am_X} {dep bc bs pc : Nat} {mi : am_M} {L L' : List (Option Value)} {st : List Value} {S : am_S} {nn : Nat} {d : am_D} {Q : Option Value → am_S → Nat → am_D → Prop} (h : am_sub L' L) (kk : am_W l C x dep bc bs mi pc L' st S nn d Q) : am_W l C x dep bc bs mi pc L st S nn d Q := by
  intro p e s m args below meth c H locs cells slots mc ms ls hC
  exact kk p e s m args below meth c H locs cells slots mc ms ls (hC.to ⟨hC.at.1, hC.at.2.1, fun i v hi => hC.at.2.2 i v (am_sub_at L' L h i v hi)⟩)
/-- a contract's end may say less -/
theorem am_Met.mono {l : Launch} {C : am_Cfg} {x : am_X} {dep mc ms : Nat} {mi : am_M} {as : List Value} {S : am_S} {n : Nat} {d : am_D} {Q Q' : Option Value → am_S → Nat → am_D → Prop} (h : am_Met l C x dep mc ms mi as S n d Q) (hq : ∀ r S n d, Q r S n d → Q' r S n d) : am_Met l C x dep mc ms mi as S n d Q' := by
  intro p e ha hc hk s m args below hf hp hP hK
  obtain ⟨k, o, h1, h2, h3, h4, h5⟩ := h p e ha hc hk s m args below hf hp hP hK
  obtain ⟨r, S1, n1, d1, g1, g2, g3⟩ := h4
  exact ⟨k, o, h1, h2, h3, ⟨r, S1, n1, d1, g1, hq _ _ _ _ g2, g3⟩, h5⟩
theorem nI_and (a b : Nat) : nI a &&& nI b = nI (a &&& b) := by
  apply Int32.toBitVec_inj.mp
  show BitVec.ofNat 32 a &&& BitVec.ofNat 32 b = BitVec.ofNat 32 (a &&& b)
  exact BitVec.ofNat_and.symm
theorem nI_or (a b : Nat) : nI a ||| nI b = nI (a ||| b) := by
  apply Int32.toBitVec_inj.mp
  show BitVec.ofNat 32 a ||| BitVec.ofNat 32 b = BitVec.ofNat 32 (a ||| b)
  exact BitVec.ofNat_or.symm
theorem i_dec (u : Int32) : u + (-1) = u - 1 := (Int32.sub_eq_add_neg u 1).symm
theorem zI_max {a b : Int} (h1 : -2147483648 ≤ a) (h2 : a < 2147483648) (h3 : -2147483648 ≤ b) (h4 : b < 2147483648) : (if zI a < zI b then zI b else zI a) = zI (max a b) := by
  by_cases h : a < b
  · rw [if_pos ((zI_lt h1 h2 h3 h4).mpr h), Int.max_eq_right (by omega)]
  · rw [if_neg (fun z => h ((zI_lt h1 h2 h3 h4).mp z)), Int.max_eq_left (by omega)]
theorem zI_min {a b : Int} (h1 : -2147483648 ≤ a) (h2 : a < 2147483648) (h3 : -2147483648 ≤ b) (h4 : b < 2147483648) : (if zI b < zI a then zI b else zI a) = zI (min a b) := by
  by_cases h : b < a
  · rw [if_pos ((zI_lt h3 h4 h1 h2).mpr h), Int.min_eq_right (by omega)]
  · rw [if_neg (fun z => h ((zI_lt h3 h4 h1 h2).mp z)), Int.min_eq_left (by omega)]
/-- bit i of a set -/
theorem nI_bit : ∀ i, i < 6 → ∀ s, s < 64 → (nI s &&& ((1 : Int32) <<< (nI i &&& 31)) = 0 ↔ s.testBit i = false) := by decide +kernel
end
section
/-! the sets within a set, as the loop part = (part - 1) & set goes through them; the greatest sum over them -/
def sb_ch (s : Nat) : Nat → Nat → List Nat
  | 0, _ => []
  | k + 1, p => if p = 0 then [] else p :: sb_ch s k ((p - 1) &&& s)
def jn_in (f g : Nat → Int) (s : Nat) : Nat → Nat → Int → Int
  | 0, _, m => m
  | k + 1, p, m => if p = 0 then m else jn_in f g s k ((p - 1) &&& s) (max m (f p + g (s - p)))
def jn (f g : Nat → Int) (s : Nat) : Int := jn_in f g s 64 s (f 0 + g s)
theorem sb_all : (List.range 64).all (fun s => (List.range 64).all (fun p => decide (p &&& s = p) == (decide (p = 0) || (sb_ch s 64 s).contains p))) = true := by decide +kernel
theorem sb_mem {s p : Nat} (hs : s < 64) (hp : p < 64) : p &&& s = p ↔ (p = 0 ∨ p ∈ sb_ch s 64 s) := by
  have h := List.all_eq_true.mp (List.all_eq_true.mp sb_all s (List.mem_range.mpr hs)) p (List.mem_range.mpr hp)
  simp only [beq_iff_eq] at h
  by_cases h1 : p &&& s = p
  · rw [decide_eq_true h1] at h
    have h2 := h.symm
    simp only [Bool.or_eq_true, decide_eq_true_eq, List.contains_iff_mem] at h2
    exact ⟨fun _ => h2, fun _ => h1⟩
  · rw [decide_eq_false h1] at h
    have h2 := h.symm
    simp only [Bool.or_eq_false_iff, decide_eq_false_iff_not] at h2
    refine ⟨fun z => absurd z h1, fun z => ?_⟩
    rcases z with z | z
    · exact absurd z h2.1
    · have := List.contains_iff_mem.mpr z
      rw [h2.2] at this; cases this
theorem jn_in_ge (f g : Nat → Int) (s : Nat) : ∀ (k p : Nat) (m : Int), m ≤ jn_in f g s k p m ∧ ∀ q ∈ sb_ch s k p, f q + g (s - q) ≤ jn_in f g s k p m
  | 0, p, m => ⟨Int.le_refl _, fun q hq => by unfold sb_ch at hq; cases hq⟩
  | k + 1, p, m => by
    unfold jn_in sb_ch
    by_cases h : p = 0
    · rw [if_pos h, if_pos h]; exact ⟨Int.le_refl _, fun q hq => by cases hq⟩
    · rw [if_neg h, if_neg h]
      obtain ⟨h1, h2⟩ := jn_in_ge f g s k ((p - 1) &&& s) (max m (f p + g (s - p)))
      refine ⟨by omega, fun q hq => ?_⟩
      rcases List.mem_cons.mp hq with rfl | hq
      · omega
      · exact h2 q hq
theorem jn_in_is (f g : Nat → Int) (s : Nat) : ∀ (k p : Nat) (m : Int), jn_in f g s k p m = m ∨ ∃ q ∈ sb_ch s k p, jn_in f g s k p m = f q + g (s - q)
  | 0, p, m => Or.inl rfl
  | k + 1, p, m => by
    unfold jn_in sb_ch
    by_cases h : p = 0
    · rw [if_pos h]; exact Or.inl rfl
    · rw [if_neg h, if_neg h]
      rcases jn_in_is f g s k ((p - 1) &&& s) (max m (f p + g (s - p))) with e | ⟨q, hq, e⟩
      · rw [e]
        by_cases h3 : m ≤ f p + g (s - p)
        · exact Or.inr ⟨p, List.mem_cons_self, by omega⟩
        · exact Or.inl (by omega)
      · exact Or.inr ⟨q, List.mem_cons_of_mem _ hq, e⟩
theorem jn_ge (f g : Nat → Int) {s p : Nat} (hs : s < 64) (hp : p &&& s = p) : f p + g (s - p) ≤ jn f g s := by
  have hp64 : p < 64 := by rw [← hp]; exact Nat.lt_of_le_of_lt Nat.and_le_right hs
  unfold jn
  obtain ⟨h1, h2⟩ := jn_in_ge f g s 64 s (f 0 + g s)
  rcases (sb_mem hs hp64).mp hp with h | h
  · subst h; simpa using h1
  · exact h2 p h
theorem sb_lt {s : Nat} (hs : s < 64) : ∀ (k p q : Nat), p < 64 → q ∈ sb_ch s k p → q < 64
  | 0, p, q, _, h => by unfold sb_ch at h; cases h
  | k + 1, p, q, hp, h => by
    unfold sb_ch at h
    split at h
    · cases h
    · rcases List.mem_cons.mp h with rfl | h
      · exact hp
      · exact sb_lt hs k _ q (Nat.lt_of_le_of_lt Nat.and_le_right hs) h
theorem jn_is (f g : Nat → Int) {s : Nat} (hs : s < 64) : ∃ p, p &&& s = p ∧ jn f g s = f p + g (s - p) := by
  unfold jn
  rcases jn_in_is f g s 64 s (f 0 + g s) with e | ⟨q, hq, e⟩
  · exact ⟨0, by simp, by rw [e]; simp⟩
  · exact ⟨q, (sb_mem hs (sb_lt hs 64 s q hs hq)).mpr (Or.inr hq), e⟩
end
section
def am_fi (d : am_D) (a k : Nat) (v : Int32) : am_D := fun b j => if b = a ∧ j < k then v else d b j
theorem am_fi_0 (d : am_D) (a : Nat) (v : Int32) : am_fi d a 0 v = d := by funext b j; unfold am_fi; rw [if_neg (by omega)]
theorem am_fi_s (d : am_D) (a k : Nat) (v : Int32) : am_u (am_fi d a k v) a k v = am_fi d a (k + 1) v := by
  funext b j; unfold am_u am_fi
  by_cases h1 : b = a
  · by_cases h2 : j = k
    · simp [h1, h2]
    · by_cases h3 : j < k
      · simp [h1, h2, h3, show j < k + 1 by omega]
      · simp [h1, h2, h3, show ¬ j < k + 1 by omega]
  · simp [h1]
/-- Arrays.fill -/
theorem c_J_fill {l : Launch} {x : am_X} {dep : Nat} {S : am_S} {nn : Nat} {d : am_D} (a : Nat) (v : Int32) (hk : (S a).1 = 0) (ha : a < nn) (hm : (S a).2.1 < 2147483648) : am_Met l K0 x dep 0 0 m_J_fill [.ref a, .int v] S nn d (am_Ret none S nn (am_fi d a (S a).2.1 v)) := by
  refine am_enter (by decide) (by simp [Value.category]) (Nat.le_of_ble_eq_true rfl) ?_
  refine am_go cd_J_fill hc_J_fill 0 3 (pc' := 3) (L' := [some (.ref a), some (.int v), some (.int 0), none]) (st' := [.ref a]) rfl ?_
  refine am_alen (am_at hc_J_fill 3 rfl) hk (Or.inl ha) rfl ?_
  refine am_go cd_J_fill hc_J_fill 4 1 (pc' := 5) (L' := [some (.ref a), some (.int v), some (.int 0), some (.int (nI (S a).2.1))]) (st' := []) rfl ?_
  have loop : ∀ k j, j + k = (S a).2.1 → am_W l K0 x dep 0 0 m_J_fill 5 [some (.ref a), some (.int v), some (.int (nI j)), some (.int (nI (S a).2.1))] [] S nn (am_fi d a j v) (am_Ret none S nn (am_fi d a (S a).2.1 v)) := by
    intro k
    induction k with
    | zero =>
      intro j hj
      refine am_go cd_J_fill hc_J_fill 5 2 (pc' := 7) (L' := [some (.ref a), some (.int v), some (.int (nI j)), some (.int (nI (S a).2.1))]) (st' := [.int (nI (S a).2.1), .int (nI j)]) rfl ?_
      refine am_icmp_ge 20 (am_at hc_J_fill 7 rfl) (by decide) (fun h => ?_) (fun h => absurd (nI_le (by omega) (by omega)) h)
      refine am_vret (am_at hc_J_fill 14 rfl) rfl ⟨rfl, rfl, rfl, ?_⟩
      rw [show j = (S a).2.1 by omega]
    | succ k ih =>
      intro j hj
      refine am_go cd_J_fill hc_J_fill 5 2 (pc' := 7) (L' := [some (.ref a), some (.int v), some (.int (nI j)), some (.int (nI (S a).2.1))]) (st' := [.int (nI (S a).2.1), .int (nI j)]) rfl ?_
      refine am_icmp_ge 20 (am_at hc_J_fill 7 rfl) (by decide) (fun h => absurd h (nI_ge (by omega) (by omega))) (fun h => ?_)
      refine am_go cd_J_fill hc_J_fill 8 3 (pc' := 13) (L' := [some (.ref a), some (.int v), some (.int (nI j)), some (.int (nI (S a).2.1))]) (st' := [.int v, .int (nI j), .ref a]) rfl ?_
      refine am_iastore (j) (am_at hc_J_fill 11 rfl) hk ha rfl (by omega) hm ?_
      refine am_go cd_J_fill hc_J_fill 12 2 (pc' := 5) (L' := [some (.ref a), some (.int v), some (.int ((nI j) + 1)), some (.int (nI (S a).2.1))]) (st' := []) rfl ?_
      rw [nI_1, am_fi_s]
      exact ih (j + 1) (by omega)
  have h0 := loop (S a).2.1 0 (by omega)
  rw [am_fi_0] at h0
  exact h0
theorem c_A_isBidder {l : Launch} {x : am_X} {dep : Nat} {S : am_S} {nn : Nat} {d : am_D} (v : Int32) : am_Met l K0 x dep 0 0 m_A_isBidder [.int v] S nn d (am_Ret (some (.int (if 0 ≤ v ∧ v < 5 then 1 else 0))) S nn d) := by
  refine am_enter (by decide) (by simp [Value.category]) (Nat.le_of_ble_eq_true rfl) ?_
  refine am_go cd_A_isBidder hc_A_isBidder 0 1 (pc' := 1) (L' := [some (.int v)]) (st' := [.int v]) rfl ?_
  refine am_if_lt 13 (am_at hc_A_isBidder 1 rfl) (by decide) (fun h1 => ?_) (fun h1 => ?_)
  · rw [if_neg (fun z => Int32.not_lt.mpr z.1 h1)]
    refine am_go cd_A_isBidder hc_A_isBidder 7 1 (pc' := 14) (L' := [some (.int v)]) (st' := [.int 0]) rfl ?_
    exact am_iret (am_at hc_A_isBidder 8 rfl) rfl rfl ⟨rfl, rfl, rfl, rfl⟩
  · skip
    refine am_go cd_A_isBidder hc_A_isBidder 2 2 (pc' := 6) (L' := [some (.int v)]) (st' := [.int 5, .int v]) rfl ?_
    refine am_icmp_ge 13 (am_at hc_A_isBidder 4 rfl) (by decide) (fun h2 => ?_) (fun h2 => ?_)
    · rw [if_neg (fun z => Int32.not_le.mpr z.2 h2)]
      refine am_go cd_A_isBidder hc_A_isBidder 7 1 (pc' := 14) (L' := [some (.int v)]) (st' := [.int 0]) rfl ?_
      exact am_iret (am_at hc_A_isBidder 8 rfl) rfl rfl ⟨rfl, rfl, rfl, rfl⟩
    · rw [if_pos ⟨Int32.not_lt.mp h1, Int32.not_le.mp h2⟩]
      refine am_go cd_A_isBidder hc_A_isBidder 5 2 (pc' := 14) (L' := [some (.int v)]) (st' := [.int 1]) rfl ?_
      exact am_iret (am_at hc_A_isBidder 8 rfl) rfl rfl ⟨rfl, rfl, rfl, rfl⟩
theorem c_A_isItem {l : Launch} {x : am_X} {dep : Nat} {S : am_S} {nn : Nat} {d : am_D} (v : Int32) : am_Met l K0 x dep 0 0 m_A_isItem [.int v] S nn d (am_Ret (some (.int (if 0 ≤ v ∧ v < 6 then 1 else 0))) S nn d) := by
  refine am_enter (by decide) (by simp [Value.category]) (Nat.le_of_ble_eq_true rfl) ?_
  refine am_go cd_A_isItem hc_A_isItem 0 1 (pc' := 1) (L' := [some (.int v)]) (st' := [.int v]) rfl ?_
  refine am_if_lt 14 (am_at hc_A_isItem 1 rfl) (by decide) (fun h1 => ?_) (fun h1 => ?_)
  · rw [if_neg (fun z => Int32.not_lt.mpr z.1 h1)]
    refine am_go cd_A_isItem hc_A_isItem 7 1 (pc' := 15) (L' := [some (.int v)]) (st' := [.int 0]) rfl ?_
    exact am_iret (am_at hc_A_isItem 8 rfl) rfl rfl ⟨rfl, rfl, rfl, rfl⟩
  · skip
    refine am_go cd_A_isItem hc_A_isItem 2 2 (pc' := 7) (L' := [some (.int v)]) (st' := [.int 6, .int v]) rfl ?_
    refine am_icmp_ge 14 (am_at hc_A_isItem 4 rfl) (by decide) (fun h2 => ?_) (fun h2 => ?_)
    · rw [if_neg (fun z => Int32.not_le.mpr z.2 h2)]
      refine am_go cd_A_isItem hc_A_isItem 7 1 (pc' := 15) (L' := [some (.int v)]) (st' := [.int 0]) rfl ?_
      exact am_iret (am_at hc_A_isItem 8 rfl) rfl rfl ⟨rfl, rfl, rfl, rfl⟩
    · rw [if_pos ⟨Int32.not_lt.mp h1, Int32.not_le.mp h2⟩]
      refine am_go cd_A_isItem hc_A_isItem 5 2 (pc' := 15) (L' := [some (.int v)]) (st' := [.int 1]) rfl ?_
      exact am_iret (am_at hc_A_isItem 8 rfl) rfl rfl ⟨rfl, rfl, rfl, rfl⟩
def so (f : Nat → Int) (s : Nat) : Nat → Int
  | 0 => 0
  | k + 1 => so f s k + if s.testBit k then f k else 0
theorem c_S_sumOver {l : Launch} {x : am_X} {dep : Nat} {S : am_S} {nn : Nat} {d : am_D} (a s : Nat) (f : Nat → Int) (hs : s < 64) (hk : (S a).1 = 0) (ha : a < nn ∨ (1000 ≤ a ∧ a < 1002)) (hl : (S a).2.1 = 6) (hf : ∀ j, j < 6 → d a j = zI (f j)) : am_Met l K0 x dep 0 0 m_S_sumOver [.ref a, .int (nI s)] S nn d (am_Ret (some (.int (zI (so f s 6)))) S nn d) := by
  refine am_enter (by decide) (by simp [Value.category]) (Nat.le_of_ble_eq_true rfl) ?_
  refine am_go cd_S_sumOver hc_S_sumOver 0 4 (pc' := 4) (L' := [some (.ref a), some (.int (nI s)), some (.int 0), some (.int 0)]) (st' := []) rfl ?_
  have loop : ∀ k j, j + k = 6 → am_W l K0 x dep 0 0 m_S_sumOver 4 [some (.ref a), some (.int (nI s)), some (.int (zI (so f s j))), some (.int (nI j))] [] S nn d (am_Ret (some (.int (zI (so f s 6)))) S nn d) := by
    intro k
    induction k with
    | zero =>
      intro j hj
      refine am_go cd_S_sumOver hc_S_sumOver 4 2 (pc' := 7) (L' := [some (.ref a), some (.int (nI s)), some (.int (zI (so f s j))), some (.int (nI j))]) (st' := [.int 6, .int (nI j)]) rfl ?_
      refine am_icmp_ge 30 (am_at hc_S_sumOver 6 rfl) (by decide) (fun h => ?_) (fun h => absurd (nI_le (a := 6) (b := j) (by omega) (by omega)) h)
      refine am_go cd_S_sumOver hc_S_sumOver 21 1 (pc' := 31) (L' := [some (.ref a), some (.int (nI s)), some (.int (zI (so f s j))), some (.int (nI j))]) (st' := [.int (zI (so f s j))]) rfl ?_
      exact am_iret (am_at hc_S_sumOver 22 rfl) rfl rfl ⟨by rw [show j = 6 by omega], rfl, rfl, rfl⟩
    | succ k ih =>
      intro j hj
      refine am_go cd_S_sumOver hc_S_sumOver 4 2 (pc' := 7) (L' := [some (.ref a), some (.int (nI s)), some (.int (zI (so f s j))), some (.int (nI j))]) (st' := [.int 6, .int (nI j)]) rfl ?_
      refine am_icmp_ge 30 (am_at hc_S_sumOver 6 rfl) (by decide) (fun h => absurd h (nI_ge (a := j) (b := 6) (by omega) (by omega))) (fun h => ?_)
      refine am_go cd_S_sumOver hc_S_sumOver 7 5 (pc' := 15) (L' := [some (.ref a), some (.int (nI s)), some (.int (zI (so f s j))), some (.int (nI j))]) (st' := [.int ((nI s) &&& (1 <<< ((nI j) &&& 31)))]) rfl ?_
      have hbit := nI_bit j (by omega) s hs
      have hnext : zI (so f s (j + 1)) = zI (so f s (j + 1)) := rfl
      refine am_if_eq 24 (am_at hc_S_sumOver 12 rfl) (by decide) (fun hb => ?_) (fun hb => ?_)
      · have e : so f s (j + 1) = so f s j := by show so f s j + _ = _; rw [hbit.mp hb]; simp
        refine am_go cd_S_sumOver hc_S_sumOver 19 2 (pc' := 4) (L' := [some (.ref a), some (.int (nI s)), some (.int (zI (so f s j))), some (.int ((nI j) + 1))]) (st' := []) rfl ?_
        rw [nI_1, ← e]
        exact ih (j + 1) (by omega)
      · have hb2 : s.testBit j = true := by cases hh : s.testBit j with | true => rfl | false => exact absurd (hbit.mpr hh) hb
        have e : so f s (j + 1) = so f s j + f j := by show so f s j + _ = _; rw [hb2]; simp
        refine am_go cd_S_sumOver hc_S_sumOver 13 3 (pc' := 21) (L' := [some (.ref a), some (.int (nI s)), some (.int (zI (so f s j))), some (.int (nI j))]) (st' := [.int (nI j), .ref a, .int (zI (so f s j))]) rfl ?_
        refine am_iaload (j) (am_at hc_S_sumOver 16 rfl) hk ha rfl (by omega) (by omega) ?_
        refine am_go cd_S_sumOver hc_S_sumOver 17 3 (pc' := 27) (L' := [some (.ref a), some (.int (nI s)), some (.int ((zI (so f s j)) + (d a j))), some (.int ((nI j) + 1))]) (st' := []) rfl ?_
        rw [hf j (by omega), zI_add, ← e]
        refine am_go cd_S_sumOver hc_S_sumOver 20 1 (pc' := 4) (L' := [some (.ref a), some (.int (nI s)), some (.int (zI (so f s (j + 1)))), some (.int ((nI j) + 1))]) (st' := []) rfl ?_
        rw [nI_1]
        exact ih (j + 1) (by omega)
  exact loop 6 0 rfl
end
section
/-! the cells behind both constructors: where they lie, what they are -/
def SH (L : Nat) : am_S := fun a => match a with
  | 0 => (3, 11, fun k => match k with | 0 => some 1 | 1 => some 2 | 2 => some 3 | 3 => some 4 | 4 => some 5 | 5 => some 6 | 6 => some 7 | 7 => some 13 | 8 => some 36 | _ => none)
  | 1 => (0, 5, fun _ => none)
  | 2 => (0, 5, fun _ => none)
  | 3 => (0, 6, fun _ => none)
  | 4 => (0, 6, fun _ => none)
  | 5 => (0, 5, fun _ => none)
  | 6 => (0, 5, fun _ => none)
  | 7 => (2, 5, fun j => if j < 5 then some (8 + j) else none)
  | 8 => (0, 64, fun _ => none)
  | 9 => (0, 64, fun _ => none)
  | 10 => (0, 64, fun _ => none)
  | 11 => (0, 64, fun _ => none)
  | 12 => (0, 64, fun _ => none)
  | 13 => (4, 8, fun k => match k with | 0 => some 14 | 5 => some 15 | 6 => some 16 | 7 => some 26 | _ => none)
  | 14 => (1, 40, fun _ => none)
  | 15 => (0, 64, fun _ => none)
  | 16 => (2, 9, fun j => if j < 9 then some (17 + j) else none)
  | 17 => (0, 64, fun _ => none)
  | 18 => (0, 64, fun _ => none)
  | 19 => (0, 64, fun _ => none)
  | 20 => (0, 64, fun _ => none)
  | 21 => (0, 64, fun _ => none)
  | 22 => (0, 64, fun _ => none)
  | 23 => (0, 64, fun _ => none)
  | 24 => (0, 64, fun _ => none)
  | 25 => (0, 64, fun _ => none)
  | 26 => (2, 9, fun j => if j < 9 then some (27 + j) else none)
  | 27 => (0, 64, fun _ => none)
  | 28 => (0, 64, fun _ => none)
  | 29 => (0, 64, fun _ => none)
  | 30 => (0, 64, fun _ => none)
  | 31 => (0, 64, fun _ => none)
  | 32 => (0, 64, fun _ => none)
  | 33 => (0, 64, fun _ => none)
  | 34 => (0, 64, fun _ => none)
  | 35 => (0, 64, fun _ => none)
  | 36 => (5, 3, fun k => match k with | 0 => some 37 | 1 => some 38 | 2 => some 39 | _ => none)
  | 37 => (0, 64, fun _ => none)
  | 38 => (0, 64, fun _ => none)
  | 39 => (0, 64, fun _ => none)
  | 40 => (6, 19, fun k => match k with | 1 => some 41 | 2 => some 42 | 4 => some 43 | 6 => some 44 | 7 => some 45 | 8 => some 46 | 9 => some 47 | 11 => some 48 | 12 => some 49 | 16 => some 50 | 17 => some 51 | 18 => some 52 | _ => none)
  | 41 => (0, 5, fun _ => none)
  | 42 => (0, 5, fun _ => none)
  | 43 => (0, 6, fun _ => none)
  | 44 => (0, 40, fun _ => none)
  | 45 => (0, 320, fun _ => none)
  | 46 => (0, 5, fun _ => none)
  | 47 => (0, 832, fun _ => none)
  | 48 => (0, 64, fun _ => none)
  | 49 => (0, 40, fun _ => none)
  | 50 => (0, 5, fun _ => none)
  | 51 => (0, 6, fun _ => none)
  | 52 => (0, 5, fun _ => none)
  | 1000 => (0, L, fun _ => none)
  | 1001 => (0, 6, fun _ => none)
  | _ => (0, 0, fun _ => none)
theorem SH_w (L : Nat) : ∀ b, b < 5 → SH L (8 + b) = (0, 64, fun _ => none) := by
  intro b hb
  have h : b = 0 ∨ b = 1 ∨ b = 2 ∨ b = 3 ∨ b = 4 := by omega
  rcases h with rfl | rfl | rfl | rfl | rfl <;> rfl
theorem SH_c (L : Nat) : ∀ b, b < 9 → SH L (17 + b) = (0, 64, fun _ => none) := by
  intro b hb
  have h : b = 0 ∨ b = 1 ∨ b = 2 ∨ b = 3 ∨ b = 4 ∨ b = 5 ∨ b = 6 ∨ b = 7 ∨ b = 8 := by omega
  rcases h with rfl | rfl | rfl | rfl | rfl | rfl | rfl | rfl | rfl <;> rfl
theorem SH_s (L : Nat) : ∀ b, b < 9 → SH L (27 + b) = (0, 64, fun _ => none) := by
  intro b hb
  have h : b = 0 ∨ b = 1 ∨ b = 2 ∨ b = 3 ∨ b = 4 ∨ b = 5 ∨ b = 6 ∨ b = 7 ∨ b = 8 := by omega
  rcases h with rfl | rfl | rfl | rfl | rfl | rfl | rfl | rfl | rfl <;> rfl
/-- a contract behind the constructors; a walk there -/
def cM (l : Launch) (x : am_X) (dep L : Nat) (m : am_M) (as : List Value) (d : am_D) (Q : Option Value → am_D → Prop) : Prop := am_Met l K0 x dep 0 0 m as (SH L) 53 d (fun r S n d' => S = SH L ∧ n = 53 ∧ Q r d')
abbrev cQ (L : Nat) (Q : Option Value → am_D → Prop) : Option Value → am_S → Nat → am_D → Prop := fun r S n d' => S = SH L ∧ n = 53 ∧ Q r d'
abbrev cW (l : Launch) (x : am_X) (dep L : Nat) (m : am_M) (pc : Nat) (Ls : List (Option Value)) (st : List Value) (d : am_D) (Q : Option Value → am_D → Prop) : Prop := am_W l K0 x dep 0 0 m pc Ls st (SH L) 53 d (cQ L Q)
theorem cM.go {l : Launch} {x : am_X} {dep L : Nat} {m : am_M} {as : List Value} {d : am_D} {Q : Option Value → am_D → Prop} (hy : plainName m.1.cls = true) (hc : ∀ v ∈ as, v.category = 1) (hn : as.length ≤ m.2.2.1)
    (k : cW l x dep L m 0 (as.map some ++ List.replicate (m.2.2.1 - as.length) none) [] d Q) : cM l x dep L m as d Q := am_enter hy hc hn k
theorem cM.mono {l : Launch} {x : am_X} {dep L : Nat} {m : am_M} {as : List Value} {d : am_D} {Q Q' : Option Value → am_D → Prop} (h : cM l x dep L m as d Q) (hq : ∀ r d, Q r d → Q' r d) : cM l x dep L m as d Q' := am_Met.mono h (fun r _ _ d' z => ⟨z.1, z.2.1, hq r d' z.2.2⟩)
/-- one end -/
def cR (r0 : Option Value) (d0 : am_D) : Option Value → am_D → Prop := fun r d => r = r0 ∧ d = d0
def bI (b : Bool) : Int32 := if b = true then 1 else 0
theorem cR_in {L : Nat} {r0 r : Option Value} {d0 d : am_D} (h1 : r = r0) (h2 : d = d0) : cQ L (cR r0 d0) r (SH L) 53 d := ⟨rfl, rfl, h1, h2⟩
end
section
theorem cW.callS {l : Launch} {x : am_X} {dep L pc : Nat} {mi : am_M} {Ls : List (Option Value)} {st : List Value} {d : am_D} {Q : Option Value → am_D → Prop} {idx k : Nat} {mj : am_M} {stk : List Value} {Q' : Option Value → am_D → Prop} (as : List Value) (hd : decode mi.2.1 pc = .ok (.invokestatic idx, 3)) (hg : am_good K0 mj k) (hl : am_ml K0 mi.1.cls idx mj) (hst : Cond.static mj.1 ∈ am_ts K0) (hk : as.length = k) (hstk : as.reverse ++ st = stk) (hs : (st.map fun v => v.category).sum ≤ 8) (hM : cM l x dep L mj as d Q') (kk : ∀ r d', Q' r d' → cW l x (dep + 1) L mi (pc + 3) Ls (r.toList ++ st) d' Q) : cW l x (dep + 1) L mi pc Ls stk d Q := by
  refine am_callS (st := st) k_ok as hd hg hl hst hk hstk hs hM (Nat.le_refl _) (Nat.le_refl _) ?_
  rintro r _ _ d' ⟨rfl, rfl, hq⟩
  exact kk r d' hq
theorem cW.callS1 {l : Launch} {x : am_X} {dep L pc : Nat} {mi : am_M} {Ls : List (Option Value)} {st : List Value} {d : am_D} {Q : Option Value → am_D → Prop} {idx k : Nat} {mj : am_M} {stk : List Value} {r0 : Option Value} {d0 : am_D} (pc' : Nat) (stk' : List Value) (as : List Value) (hd : decode mi.2.1 pc = .ok (.invokestatic idx, 3)) (hg : am_good K0 mj k) (hl : am_ml K0 mi.1.cls idx mj) (hst : Cond.static mj.1 ∈ am_ts K0) (hk : as.length = k) (hstk : as.reverse ++ st = stk) (hs : (st.map fun v => v.category).sum ≤ 8) (hM : cM l x dep L mj as d (cR r0 d0)) (hpc : pc + 3 = pc') (hst' : r0.toList ++ st = stk') (kk : cW l x (dep + 1) L mi pc' Ls stk' d0 Q) : cW l x (dep + 1) L mi pc Ls stk d Q := by
  refine cW.callS (st := st) as hd hg hl hst hk hstk hs hM ?_
  rintro r d' ⟨rfl, rfl⟩
  subst hpc; subst hst'
  exact kk
theorem cW.callV {l : Launch} {x : am_X} {dep L pc : Nat} {mi : am_M} {Ls : List (Option Value)} {st : List Value} {d : am_D} {Q : Option Value → am_D → Prop} {idx k : Nat} {mj : am_M} {stk : List Value} {b : Nat} {Q' : Option Value → am_D → Prop} (as : List Value) (hd : decode mi.2.1 pc = .ok (.invokevirtual idx, 3)) (hg : am_good K0 mj k) (hl : am_ml K0 mi.1.cls idx mj) (hst : Cond.instanceMethod mj.1 ∈ am_ts K0) (hsel : Cond.selects mj.1.cls mj.1 mj.1 ∈ am_ts K0) (ci : Nat) (rc : vw_C) (hbk : (SH L b).1 = ci + 3) (hbn : b < 53) (hrc : (am_cl K0)[ci]? = some rc) (hcn : rc.1 = mj.1.cls) (hk : as.length = k) (hstk : as.reverse ++ .ref b :: st = stk) (hs : (st.map fun v => v.category).sum ≤ 8) (hM : cM l x dep L mj (.ref b :: as) d Q') (kk : ∀ r d', Q' r d' → cW l x (dep + 1) L mi (pc + 3) Ls (r.toList ++ st) d' Q) : cW l x (dep + 1) L mi pc Ls stk d Q := by
  refine am_callV (st := st) k_ok as hd hg hl hst hsel ci rc hbk hbn hrc hcn hk hstk hs hM (Nat.le_refl _) (Nat.le_refl _) ?_
  rintro r _ _ d' ⟨rfl, rfl, hq⟩
  exact kk r d' hq
theorem cW.callV1 {l : Launch} {x : am_X} {dep L pc : Nat} {mi : am_M} {Ls : List (Option Value)} {st : List Value} {d : am_D} {Q : Option Value → am_D → Prop} {idx k : Nat} {mj : am_M} {stk : List Value} {b : Nat} {r0 : Option Value} {d0 : am_D} (pc' : Nat) (stk' : List Value) (as : List Value) (hd : decode mi.2.1 pc = .ok (.invokevirtual idx, 3)) (hg : am_good K0 mj k) (hl : am_ml K0 mi.1.cls idx mj) (hst : Cond.instanceMethod mj.1 ∈ am_ts K0) (hsel : Cond.selects mj.1.cls mj.1 mj.1 ∈ am_ts K0) (ci : Nat) (rc : vw_C) (hbk : (SH L b).1 = ci + 3) (hbn : b < 53) (hrc : (am_cl K0)[ci]? = some rc) (hcn : rc.1 = mj.1.cls) (hk : as.length = k) (hstk : as.reverse ++ .ref b :: st = stk) (hs : (st.map fun v => v.category).sum ≤ 8) (hM : cM l x dep L mj (.ref b :: as) d (cR r0 d0)) (hpc : pc + 3 = pc') (hst' : r0.toList ++ st = stk') (kk : cW l x (dep + 1) L mi pc' Ls stk' d0 Q) : cW l x (dep + 1) L mi pc Ls stk d Q := by
  refine cW.callV (st := st) as hd hg hl hst hsel ci rc hbk hbn hrc hcn hk hstk hs hM ?_
  rintro r d' ⟨rfl, rfl⟩
  subst hpc; subst hst'
  exact kk
end
section
/-! the reader of the class as a function: T the codes, n how many -/
def pr_se (T : Nat → Nat) (n p c : Nat) : Bool := decide (p < n ∧ T p = c)
def pr_dg (T : Nat → Nat) (n p : Nat) : Bool := decide (p < n ∧ 48 ≤ T p ∧ T p ≤ 57)
def pr_lt (T : Nat → Nat) (n p : Nat) : Bool := decide (p < n ∧ 97 ≤ T p ∧ T p ≤ 102)
def pr_num (T : Nat → Nat) (n : Nat) : Nat → Nat → Nat → Nat × Nat
  | 0, p, v => (p, v)
  | k + 1, p, v => if pr_dg T n p = true then pr_num T n k (p + 1) (v * 10 + (T p - 48)) else (p, v)
def pr_let (T : Nat → Nat) (n : Nat) : Nat → Nat → Nat → Nat × Nat
  | 0, p, m => (p, m)
  | k + 1, p, m => if pr_lt T n p = true ∧ m.testBit (T p - 97) = false then pr_let T n k (p + 1) (m ||| 2 ^ (T p - 97)) else (p, m)
abbrev pr_R : Type := Nat × Option (Nat × (Nat → Int))
def pr_bun (v m : Nat) : Nat → Int := fun s => if s &&& m = m then v else 0
def pr_bundle (T : Nat → Nat) (n p c : Nat) : pr_R :=
  if 12 ≤ c then (p, none) else if pr_dg T n p = false then (p, none) else
    if (pr_let T n 6 (pr_num T n 3 p 0).1 0).2 = 0 then ((pr_let T n 6 (pr_num T n 3 p 0).1 0).1, none)
    else ((pr_let T n 6 (pr_num T n 3 p 0).1 0).1, some (c + 1, pr_bun (pr_num T n 3 p 0).2 (pr_let T n 6 (pr_num T n 3 p 0).1 0).2))
def pr_atom (T : Nat → Nat) (n : Nat) (B : Option (Nat → Nat → pr_R)) (p c : Nat) : pr_R :=
  if pr_se T n p 40 = false then pr_bundle T n p c else match B with
    | none => (p, none)
    | some f => match f (p + 1) c with
      | (q, none) => (q, none)
      | (q, some r) => if pr_se T n q 41 = true then (q + 1, some r) else (q, none)
def pr_capl (T : Nat → Nat) (n : Nat) : Nat → Nat → Nat → (Nat → Int) → pr_R
  | 0, p, _, _ => (p, none)
  | k + 1, p, c, v => if pr_se T n p 60 = false then (p, some (c, v)) else if 12 ≤ c then (p, none) else
      if pr_dg T n (p + 1) = false then (p + 1, none) else pr_capl T n k (pr_num T n 3 (p + 1) 0).1 (c + 1) (fun s => min (v s) (pr_num T n 3 (p + 1) 0).2)
def pr_cap (T : Nat → Nat) (n : Nat) (B : Option (Nat → Nat → pr_R)) (p c : Nat) : pr_R := match pr_atom T n B p c with
  | (q, none) => (q, none)
  | (q, some r) => pr_capl T n 13 q r.1 r.2
def pr_suml (T : Nat → Nat) (n : Nat) (B : Option (Nat → Nat → pr_R)) : Nat → Nat → Nat → (Nat → Int) → pr_R
  | 0, p, _, _ => (p, none)
  | k + 1, p, c, acc => match pr_cap T n B p c with
    | (q, none) => (q, none)
    | (q, some r) => if pr_se T n q 43 = false then (q, some (r.1, jn acc r.2)) else if 12 ≤ r.1 then (q, none) else pr_suml T n B k (q + 1) (r.1 + 1) (jn acc r.2)
def pr_sum (T : Nat → Nat) (n : Nat) (B : Option (Nat → Nat → pr_R)) (p c : Nat) : pr_R := pr_suml T n B 13 p c (fun _ => 0)
def pr_bidl (T : Nat → Nat) (n : Nat) (B : Option (Nat → Nat → pr_R)) : Nat → Nat → Nat → (Nat → Int) → pr_R
  | 0, p, _, _ => (p, none)
  | k + 1, p, c, acc => match pr_sum T n B p c with
    | (q, none) => (q, none)
    | (q, some r) => if pr_se T n q 94 = false then (q, some (r.1, fun s => max (acc s) (r.2 s))) else if 12 ≤ r.1 then (q, none) else pr_bidl T n B k (q + 1) (r.1 + 1) (fun s => max (acc s) (r.2 s))
def pr_bid (T : Nat → Nat) (n : Nat) (B : Option (Nat → Nat → pr_R)) (p c : Nat) : pr_R := pr_bidl T n B 13 p c (fun _ => 0)
def pr_bidk (T : Nat → Nat) (n : Nat) : Nat → Nat → Nat → pr_R
  | 0, p, c => pr_bid T n none p c
  | k + 1, p, c => pr_bid T n (some (pr_bidk T n k)) p c
end
section
/-- the text stands in the reader -/
def rd_ok (d : am_D) (T : Nat → Nat) (n : Nat) : Prop := d 13 1 = nI n ∧ n ≤ 40 ∧ ∀ j, j < n → d 14 j = nI (T j) ∧ T j < 128
theorem rd_ok.to {d d' : am_D} {T : Nat → Nat} {n : Nat} (h : rd_ok d T n) (h1 : d' 13 1 = d 13 1) (h2 : d' 14 = d 14) : rd_ok d' T n := ⟨h1.trans h.1, h.2.1, fun j hj => by rw [h2]; exact h.2.2 j hj⟩
theorem c_B_sees {l : Launch} {x : am_X} {e L : Nat} {d : am_D} {T : Nat → Nat} {n : Nat} (hr : rd_ok d T n) {p : Nat} (c : Nat) (hc : c < 1000) (hp : d 13 2 = nI p) (hp2 : p ≤ 1000) : cM l x e L m_B_sees [.ref 13, .int (nI c)] d (cR (some (.int (bI (pr_se T n p c)))) d) := by
  refine cM.go (by decide) (by simp [Value.category]) (Nat.le_of_ble_eq_true rfl) ?_
  have hn := hr.2.1
  refine am_go cd_B_sees hc_B_sees 0 1 (pc' := 1) (L' := [some (.ref 13), some (.int (nI c))]) (st' := [.ref 13]) rfl ?_
  refine am_getf 1 2 k_r1 (am_at hc_B_sees 1 rfl) rfl (by decide) rfl (by decide) k_ok1 (Or.inl (tw 27 rfl rfl)) (congrArg Value.int hp) ?_
  refine am_go cd_B_sees hc_B_sees 2 1 (pc' := 5) (L' := [some (.ref 13), some (.int (nI c))]) (st' := [.ref 13, .int (nI p)]) rfl ?_
  refine am_getf 1 1 k_r1 (am_at hc_B_sees 3 rfl) rfl (by decide) rfl (by decide) k_ok1 (Or.inl (tw 26 rfl rfl)) (congrArg Value.int hr.1) ?_
  refine am_icmp_ge 28 (am_at hc_B_sees 4 rfl) (by decide) (fun h1 => ?_) (fun h1 => ?_)
  · have h2 := (nI_leI (by omega) (by omega)).mp h1
    have e0 : pr_se T n p c = false := decide_eq_false (fun z => by omega)
    refine am_go cd_B_sees hc_B_sees 14 1 (pc' := 29) (L' := [some (.ref 13), some (.int (nI c))]) (st' := [.int 0]) rfl ?_
    exact am_iret (am_at hc_B_sees 15 rfl) rfl rfl (cR_in (by rw [e0]; rfl) rfl)
  · have h2 : p < n := Nat.not_le.mp (fun z => h1 ((nI_leI (by omega) (by omega)).mpr z))
    have hT := (hr.2.2 p h2).1
    have hT2 := (hr.2.2 p h2).2
    refine am_go cd_B_sees hc_B_sees 5 1 (pc' := 12) (L' := [some (.ref 13), some (.int (nI c))]) (st' := [.ref 13]) rfl ?_
    refine am_getf 1 0 k_r1 (am_at hc_B_sees 6 rfl) rfl (by decide) rfl (by decide) k_ok1 (Or.inl (tw 25 rfl rfl)) rfl ?_
    refine am_go cd_B_sees hc_B_sees 7 1 (pc' := 16) (L' := [some (.ref 13), some (.int (nI c))]) (st' := [.ref 13, .ref 14]) rfl ?_
    refine am_getf 1 2 k_r1 (am_at hc_B_sees 8 rfl) rfl (by decide) rfl (by decide) k_ok1 (Or.inl (tw 27 rfl rfl)) (congrArg Value.int hp) ?_
    refine am_caload (p) (am_at hc_B_sees 9 rfl) rfl (by decide) rfl (by show p < 40; omega) (Nat.le_of_ble_eq_true rfl) ?_
    rw [show d 14 p = nI (T p) from hT]
    refine am_go cd_B_sees hc_B_sees 10 1 (pc' := 21) (L' := [some (.ref 13), some (.int (nI c))]) (st' := [.int (nI c), .int (nI (T p))]) rfl ?_
    refine am_icmp_ne 28 (am_at hc_B_sees 11 rfl) (by decide) (fun h3 => ?_) (fun h3 => ?_)
    · have e0 : pr_se T n p c = false := decide_eq_false (fun z => h3 (by rw [z.2]))
      refine am_go cd_B_sees hc_B_sees 14 1 (pc' := 29) (L' := [some (.ref 13), some (.int (nI c))]) (st' := [.int 0]) rfl ?_
      exact am_iret (am_at hc_B_sees 15 rfl) rfl rfl (cR_in (by rw [e0]; rfl) rfl)
    · have e0 : pr_se T n p c = true := decide_eq_true ⟨h2, (nI_eq (by omega) (by omega)).mp h3⟩
      refine am_go cd_B_sees hc_B_sees 12 2 (pc' := 29) (L' := [some (.ref 13), some (.int (nI c))]) (st' := [.int 1]) rfl ?_
      exact am_iret (am_at hc_B_sees 15 rfl) rfl rfl (cR_in (by rw [e0]; rfl) rfl)
theorem c_B_seesDigit {l : Launch} {x : am_X} {e L : Nat} {d : am_D} {T : Nat → Nat} {n : Nat} (hr : rd_ok d T n) {p : Nat} (hp : d 13 2 = nI p) (hp2 : p ≤ 1000) : cM l x e L m_B_seesDigit [.ref 13] d (cR (some (.int (bI (pr_dg T n p)))) d) := by
  refine cM.go (by decide) (by simp [Value.category]) (Nat.le_of_ble_eq_true rfl) ?_
  have hn := hr.2.1
  refine am_go cd_B_seesDigit hc_B_seesDigit 0 1 (pc' := 1) (L' := [some (.ref 13)]) (st' := [.ref 13]) rfl ?_
  refine am_getf 1 2 k_r1 (am_at hc_B_seesDigit 1 rfl) rfl (by decide) rfl (by decide) k_ok1 (Or.inl (tw 27 rfl rfl)) (congrArg Value.int hp) ?_
  refine am_go cd_B_seesDigit hc_B_seesDigit 2 1 (pc' := 5) (L' := [some (.ref 13)]) (st' := [.ref 13, .int (nI p)]) rfl ?_
  refine am_getf 1 1 k_r1 (am_at hc_B_seesDigit 3 rfl) rfl (by decide) rfl (by decide) k_ok1 (Or.inl (tw 26 rfl rfl)) (congrArg Value.int hr.1) ?_
  refine am_icmp_ge 43 (am_at hc_B_seesDigit 4 rfl) (by decide) (fun h1 => ?_) (fun h1 => ?_)
  · have h2 := (nI_leI (by omega) (by omega)).mp h1
    have e0 : pr_dg T n p = false := decide_eq_false (fun z => by omega)
    refine am_go cd_B_seesDigit hc_B_seesDigit 21 1 (pc' := 44) (L' := [some (.ref 13)]) (st' := [.int 0]) rfl ?_
    exact am_iret (am_at hc_B_seesDigit 22 rfl) rfl rfl (cR_in (by rw [e0]; rfl) rfl)
  · have h2 : p < n := Nat.not_le.mp (fun z => h1 ((nI_leI (by omega) (by omega)).mpr z))
    have hT := (hr.2.2 p h2).1
    have hT2 := (hr.2.2 p h2).2
    refine am_go cd_B_seesDigit hc_B_seesDigit 5 1 (pc' := 12) (L' := [some (.ref 13)]) (st' := [.ref 13]) rfl ?_
    refine am_getf 1 0 k_r1 (am_at hc_B_seesDigit 6 rfl) rfl (by decide) rfl (by decide) k_ok1 (Or.inl (tw 25 rfl rfl)) rfl ?_
    refine am_go cd_B_seesDigit hc_B_seesDigit 7 1 (pc' := 16) (L' := [some (.ref 13)]) (st' := [.ref 13, .ref 14]) rfl ?_
    refine am_getf 1 2 k_r1 (am_at hc_B_seesDigit 8 rfl) rfl (by decide) rfl (by decide) k_ok1 (Or.inl (tw 27 rfl rfl)) (congrArg Value.int hp) ?_
    refine am_caload (p) (am_at hc_B_seesDigit 9 rfl) rfl (by decide) rfl (by show p < 40; omega) (Nat.le_of_ble_eq_true rfl) ?_
    rw [show d 14 p = nI (T p) from hT]
    refine am_go cd_B_seesDigit hc_B_seesDigit 10 1 (pc' := 22) (L' := [some (.ref 13)]) (st' := [.int 48, .int (nI (T p))]) rfl ?_
    refine am_icmp_lt 43 (am_at hc_B_seesDigit 11 rfl) (by decide) (fun h3 => ?_) (fun h3 => ?_)
    · have h4 : T p < 48 := (nI_ltI (b := 48) (by omega) (by omega)).mp h3
      have e0 : pr_dg T n p = false := decide_eq_false (fun z => by omega)
      refine am_go cd_B_seesDigit hc_B_seesDigit 21 1 (pc' := 44) (L' := [some (.ref 13)]) (st' := [.int 0]) rfl ?_
      exact am_iret (am_at hc_B_seesDigit 22 rfl) rfl rfl (cR_in (by rw [e0]; rfl) rfl)
    · have h4 : 48 ≤ T p := Nat.not_lt.mp (fun z => h3 ((nI_ltI (b := 48) (by omega) (by omega)).mpr z))
      refine am_go cd_B_seesDigit hc_B_seesDigit 12 1 (pc' := 26) (L' := [some (.ref 13)]) (st' := [.ref 13]) rfl ?_
      refine am_getf 1 0 k_r1 (am_at hc_B_seesDigit 13 rfl) rfl (by decide) rfl (by decide) k_ok1 (Or.inl (tw 25 rfl rfl)) rfl ?_
      refine am_go cd_B_seesDigit hc_B_seesDigit 14 1 (pc' := 30) (L' := [some (.ref 13)]) (st' := [.ref 13, .ref 14]) rfl ?_
      refine am_getf 1 2 k_r1 (am_at hc_B_seesDigit 15 rfl) rfl (by decide) rfl (by decide) k_ok1 (Or.inl (tw 27 rfl rfl)) (congrArg Value.int hp) ?_
      refine am_caload (p) (am_at hc_B_seesDigit 16 rfl) rfl (by decide) rfl (by show p < 40; omega) (Nat.le_of_ble_eq_true rfl) ?_
      rw [show d 14 p = nI (T p) from hT]
      refine am_go cd_B_seesDigit hc_B_seesDigit 17 1 (pc' := 36) (L' := [some (.ref 13)]) (st' := [.int 57, .int (nI (T p))]) rfl ?_
      refine am_icmp_gt 43 (am_at hc_B_seesDigit 18 rfl) (by decide) (fun h5 => ?_) (fun h5 => ?_)
      · have h6 : 57 < T p := (nI_ltI (a := 57) (by omega) (by omega)).mp h5
        have e0 : pr_dg T n p = false := decide_eq_false (fun z => by omega)
        refine am_go cd_B_seesDigit hc_B_seesDigit 21 1 (pc' := 44) (L' := [some (.ref 13)]) (st' := [.int 0]) rfl ?_
        exact am_iret (am_at hc_B_seesDigit 22 rfl) rfl rfl (cR_in (by rw [e0]; rfl) rfl)
      · have h6 : T p ≤ 57 := Nat.not_lt.mp (fun z => h5 ((nI_ltI (a := 57) (by omega) (by omega)).mpr z))
        have e0 : pr_dg T n p = true := decide_eq_true ⟨h2, h4, h6⟩
        refine am_go cd_B_seesDigit hc_B_seesDigit 19 2 (pc' := 44) (L' := [some (.ref 13)]) (st' := [.int 1]) rfl ?_
        exact am_iret (am_at hc_B_seesDigit 22 rfl) rfl rfl (cR_in (by rw [e0]; rfl) rfl)
theorem c_B_seesLetter {l : Launch} {x : am_X} {e L : Nat} {d : am_D} {T : Nat → Nat} {n : Nat} (hr : rd_ok d T n) {p : Nat} (hp : d 13 2 = nI p) (hp2 : p ≤ 1000) : cM l x e L m_B_seesLetter [.ref 13] d (cR (some (.int (bI (pr_lt T n p)))) d) := by
  refine cM.go (by decide) (by simp [Value.category]) (Nat.le_of_ble_eq_true rfl) ?_
  have hn := hr.2.1
  refine am_go cd_B_seesLetter hc_B_seesLetter 0 1 (pc' := 1) (L' := [some (.ref 13)]) (st' := [.ref 13]) rfl ?_
  refine am_getf 1 2 k_r1 (am_at hc_B_seesLetter 1 rfl) rfl (by decide) rfl (by decide) k_ok1 (Or.inl (tw 27 rfl rfl)) (congrArg Value.int hp) ?_
  refine am_go cd_B_seesLetter hc_B_seesLetter 2 1 (pc' := 5) (L' := [some (.ref 13)]) (st' := [.ref 13, .int (nI p)]) rfl ?_
  refine am_getf 1 1 k_r1 (am_at hc_B_seesLetter 3 rfl) rfl (by decide) rfl (by decide) k_ok1 (Or.inl (tw 26 rfl rfl)) (congrArg Value.int hr.1) ?_
  refine am_icmp_ge 43 (am_at hc_B_seesLetter 4 rfl) (by decide) (fun h1 => ?_) (fun h1 => ?_)
  · have h2 := (nI_leI (by omega) (by omega)).mp h1
    have e0 : pr_lt T n p = false := decide_eq_false (fun z => by omega)
    refine am_go cd_B_seesLetter hc_B_seesLetter 21 1 (pc' := 44) (L' := [some (.ref 13)]) (st' := [.int 0]) rfl ?_
    exact am_iret (am_at hc_B_seesLetter 22 rfl) rfl rfl (cR_in (by rw [e0]; rfl) rfl)
  · have h2 : p < n := Nat.not_le.mp (fun z => h1 ((nI_leI (by omega) (by omega)).mpr z))
    have hT := (hr.2.2 p h2).1
    have hT2 := (hr.2.2 p h2).2
    refine am_go cd_B_seesLetter hc_B_seesLetter 5 1 (pc' := 12) (L' := [some (.ref 13)]) (st' := [.ref 13]) rfl ?_
    refine am_getf 1 0 k_r1 (am_at hc_B_seesLetter 6 rfl) rfl (by decide) rfl (by decide) k_ok1 (Or.inl (tw 25 rfl rfl)) rfl ?_
    refine am_go cd_B_seesLetter hc_B_seesLetter 7 1 (pc' := 16) (L' := [some (.ref 13)]) (st' := [.ref 13, .ref 14]) rfl ?_
    refine am_getf 1 2 k_r1 (am_at hc_B_seesLetter 8 rfl) rfl (by decide) rfl (by decide) k_ok1 (Or.inl (tw 27 rfl rfl)) (congrArg Value.int hp) ?_
    refine am_caload (p) (am_at hc_B_seesLetter 9 rfl) rfl (by decide) rfl (by show p < 40; omega) (Nat.le_of_ble_eq_true rfl) ?_
    rw [show d 14 p = nI (T p) from hT]
    refine am_go cd_B_seesLetter hc_B_seesLetter 10 1 (pc' := 22) (L' := [some (.ref 13)]) (st' := [.int 97, .int (nI (T p))]) rfl ?_
    refine am_icmp_lt 43 (am_at hc_B_seesLetter 11 rfl) (by decide) (fun h3 => ?_) (fun h3 => ?_)
    · have h4 : T p < 97 := (nI_ltI (b := 97) (by omega) (by omega)).mp h3
      have e0 : pr_lt T n p = false := decide_eq_false (fun z => by omega)
      refine am_go cd_B_seesLetter hc_B_seesLetter 21 1 (pc' := 44) (L' := [some (.ref 13)]) (st' := [.int 0]) rfl ?_
      exact am_iret (am_at hc_B_seesLetter 22 rfl) rfl rfl (cR_in (by rw [e0]; rfl) rfl)
    · have h4 : 97 ≤ T p := Nat.not_lt.mp (fun z => h3 ((nI_ltI (b := 97) (by omega) (by omega)).mpr z))
      refine am_go cd_B_seesLetter hc_B_seesLetter 12 1 (pc' := 26) (L' := [some (.ref 13)]) (st' := [.ref 13]) rfl ?_
      refine am_getf 1 0 k_r1 (am_at hc_B_seesLetter 13 rfl) rfl (by decide) rfl (by decide) k_ok1 (Or.inl (tw 25 rfl rfl)) rfl ?_
      refine am_go cd_B_seesLetter hc_B_seesLetter 14 1 (pc' := 30) (L' := [some (.ref 13)]) (st' := [.ref 13, .ref 14]) rfl ?_
      refine am_getf 1 2 k_r1 (am_at hc_B_seesLetter 15 rfl) rfl (by decide) rfl (by decide) k_ok1 (Or.inl (tw 27 rfl rfl)) (congrArg Value.int hp) ?_
      refine am_caload (p) (am_at hc_B_seesLetter 16 rfl) rfl (by decide) rfl (by show p < 40; omega) (Nat.le_of_ble_eq_true rfl) ?_
      rw [show d 14 p = nI (T p) from hT]
      refine am_go cd_B_seesLetter hc_B_seesLetter 17 1 (pc' := 36) (L' := [some (.ref 13)]) (st' := [.int 102, .int (nI (T p))]) rfl ?_
      refine am_icmp_gt 43 (am_at hc_B_seesLetter 18 rfl) (by decide) (fun h5 => ?_) (fun h5 => ?_)
      · have h6 : 102 < T p := (nI_ltI (a := 102) (by omega) (by omega)).mp h5
        have e0 : pr_lt T n p = false := decide_eq_false (fun z => by omega)
        refine am_go cd_B_seesLetter hc_B_seesLetter 21 1 (pc' := 44) (L' := [some (.ref 13)]) (st' := [.int 0]) rfl ?_
        exact am_iret (am_at hc_B_seesLetter 22 rfl) rfl rfl (cR_in (by rw [e0]; rfl) rfl)
      · have h6 : T p ≤ 102 := Nat.not_lt.mp (fun z => h5 ((nI_ltI (a := 102) (by omega) (by omega)).mpr z))
        have e0 : pr_lt T n p = true := decide_eq_true ⟨h2, h4, h6⟩
        refine am_go cd_B_seesLetter hc_B_seesLetter 19 2 (pc' := 44) (L' := [some (.ref 13)]) (st' := [.int 1]) rfl ?_
        exact am_iret (am_at hc_B_seesLetter 22 rfl) rfl rfl (cR_in (by rw [e0]; rfl) rfl)
theorem c_B_beginPart {l : Launch} {x : am_X} {e L : Nat} {d : am_D} {c : Nat} (hc : d 13 4 = nI c) (hc2 : c ≤ 1000) : cM l x e L m_B_beginPart [.ref 13] d (cR (some (.int (if 12 ≤ c then 0 else 1))) (if 12 ≤ c then d else am_u d 13 4 (nI (c + 1)))) := by
  refine cM.go (by decide) (by simp [Value.category]) (Nat.le_of_ble_eq_true rfl) ?_
  refine am_go cd_B_beginPart hc_B_beginPart 0 1 (pc' := 1) (L' := [some (.ref 13)]) (st' := [.ref 13]) rfl ?_
  refine am_getf 1 4 k_r1 (am_at hc_B_beginPart 1 rfl) rfl (by decide) rfl (by decide) k_ok1 (Or.inl (tw 29 rfl rfl)) (congrArg Value.int hc) ?_
  refine am_go cd_B_beginPart hc_B_beginPart 2 1 (pc' := 6) (L' := [some (.ref 13)]) (st' := [.int 12, .int (nI c)]) rfl ?_
  refine am_icmp_lt 11 (am_at hc_B_beginPart 3 rfl) (by decide) (fun h1 => ?_) (fun h1 => ?_)
  · have h2 : c < 12 := (nI_ltI (b := 12) (by omega) (by omega)).mp h1
    refine am_go cd_B_beginPart hc_B_beginPart 6 2 (pc' := 13) (L' := [some (.ref 13)]) (st' := [.ref 13, .ref 13]) rfl ?_
    refine am_getf 1 4 k_r1 (am_at hc_B_beginPart 8 rfl) rfl (by decide) rfl (by decide) k_ok1 (Or.inl (tw 29 rfl rfl)) (congrArg Value.int hc) ?_
    refine am_go cd_B_beginPart hc_B_beginPart 9 2 (pc' := 18) (L' := [some (.ref 13)]) (st' := [.int ((nI c) + 1), .ref 13]) rfl ?_
    refine am_putI 1 4 k_r1 (am_at hc_B_beginPart 11 rfl) rfl (by decide) rfl (by decide) k_ok1 (tw 29 rfl rfl) rfl rfl rfl rfl ?_
    refine am_go cd_B_beginPart hc_B_beginPart 12 1 (pc' := 22) (L' := [some (.ref 13)]) (st' := [.int 1]) rfl ?_
    exact am_iret (am_at hc_B_beginPart 13 rfl) rfl rfl (cR_in (by rw [if_neg (by omega)]) (by rw [if_neg (by omega), nI_1]))
  · have h2 : 12 ≤ c := Nat.not_lt.mp (fun z => h1 ((nI_ltI (b := 12) (by omega) (by omega)).mpr z))
    refine am_go cd_B_beginPart hc_B_beginPart 4 1 (pc' := 10) (L' := [some (.ref 13)]) (st' := [.int 0]) rfl ?_
    exact am_iret (am_at hc_B_beginPart 5 rfl) rfl rfl (cR_in (by rw [if_pos h2]) (by rw [if_pos h2]))
theorem c_B_takeSign {l : Launch} {x : am_X} {e L : Nat} {d : am_D} {c p : Nat} (hp : d 13 2 = nI p) (hc : d 13 4 = nI c) (hc2 : c ≤ 1000) : cM l x (e + 1) L m_B_takeSign [.ref 13] d (cR (some (.int (if 12 ≤ c then 0 else 1))) (if 12 ≤ c then d else am_u (am_u d 13 4 (nI (c + 1))) 13 2 (nI (p + 1)))) := by
  refine cM.go (by decide) (by simp [Value.category]) (Nat.le_of_ble_eq_true rfl) ?_
  refine am_go cd_B_takeSign hc_B_takeSign 0 1 (pc' := 1) (L' := [some (.ref 13)]) (st' := [.ref 13]) rfl ?_
  refine cW.callV1 4 [.int (if 12 ≤ c then 0 else 1)] (st := []) [] (am_at hc_B_takeSign 1 rfl) g_B_beginPart (Or.inl (tw 181 rfl rfl)) (tw 183 rfl rfl) (tp 7 rfl rfl) 1 k_r1 rfl (by decide) rfl rfl rfl rfl (by decide) (c_B_beginPart hc hc2) rfl rfl ?_
  by_cases h2 : 12 ≤ c
  · simp only [if_pos h2]
    refine am_if_ne 9 (am_at hc_B_takeSign 2 rfl) (by decide) (fun h1 => absurd rfl h1) (fun h1 => ?_)
    refine am_go cd_B_takeSign hc_B_takeSign 3 1 (pc' := 8) (L' := [some (.ref 13)]) (st' := [.int 0]) rfl ?_
    exact am_iret (am_at hc_B_takeSign 4 rfl) rfl rfl (cR_in rfl rfl)
  · simp only [if_neg h2]
    refine am_if_ne 9 (am_at hc_B_takeSign 2 rfl) (by decide) (fun h1 => ?_) (fun h1 => absurd h1 (by decide))
    refine am_go cd_B_takeSign hc_B_takeSign 5 2 (pc' := 11) (L' := [some (.ref 13)]) (st' := [.ref 13, .ref 13]) rfl ?_
    refine am_getf 1 2 k_r1 (am_at hc_B_takeSign 7 rfl) rfl (by decide) rfl (by decide) k_ok1 (Or.inl (tw 27 rfl rfl)) (congrArg Value.int hp) ?_
    refine am_go cd_B_takeSign hc_B_takeSign 8 2 (pc' := 16) (L' := [some (.ref 13)]) (st' := [.int ((nI p) + 1), .ref 13]) rfl ?_
    refine am_putI 1 2 k_r1 (am_at hc_B_takeSign 10 rfl) rfl (by decide) rfl (by decide) k_ok1 (tw 27 rfl rfl) rfl rfl rfl rfl ?_
    refine am_go cd_B_takeSign hc_B_takeSign 11 1 (pc' := 20) (L' := [some (.ref 13)]) (st' := [.int 1]) rfl ?_
    exact am_iret (am_at hc_B_takeSign 12 rfl) rfl rfl (cR_in rfl (by rw [nI_1]))
theorem c_B_empty {l : Launch} {x : am_X} {e L : Nat} {d : am_D} : cM l x e L m_B_empty [.ref 13] d (cR none (am_u d 13 1 0)) := by
  refine cM.go (by decide) (by simp [Value.category]) (Nat.le_of_ble_eq_true rfl) ?_
  refine am_go cd_B_empty hc_B_empty 0 2 (pc' := 2) (L' := [some (.ref 13)]) (st' := [.int 0, .ref 13]) rfl ?_
  refine am_putI 1 1 k_r1 (am_at hc_B_empty 2 rfl) rfl (by decide) rfl (by decide) k_ok1 (tw 26 rfl rfl) rfl rfl rfl rfl ?_
  exact am_vret (am_at hc_B_empty 3 rfl) rfl (cR_in rfl rfl)
end
section
/-- the first k places of a row are F's -/
def am_tb (d : am_D) (a k : Nat) (F : Nat → Int32) : am_D := am_nd d a (fun j => if j < k then F j else d a j)
theorem am_tb_0 (d : am_D) (a : Nat) (F : Nat → Int32) : am_tb d a 0 F = d := by
  funext b; unfold am_tb am_nd
  by_cases h : b = a
  · subst h; simp
  · simp [h]
theorem am_tb_s (d : am_D) (a k : Nat) (F : Nat → Int32) : am_u (am_tb d a k F) a k (F k) = am_tb d a (k + 1) F := by
  funext b j; unfold am_u am_tb am_nd
  by_cases h1 : b = a
  · by_cases h2 : j = k
    · simp [h1, h2]
    · by_cases h3 : j < k
      · simp [h1, h2, h3, show j < k + 1 by omega]
      · simp [h1, h2, h3, show ¬ j < k + 1 by omega]
  · simp [h1]
theorem am_tb_ge {d : am_D} {a k j : Nat} {F : Nat → Int32} (h : k ≤ j) : am_tb d a k F a j = d a j := by unfold am_tb; rw [am_nd_self, if_neg (by omega)]
theorem am_tb_lt {d : am_D} {a k j : Nat} {F : Nat → Int32} (h : j < k) : am_tb d a k F a j = F j := by unfold am_tb; rw [am_nd_self, if_pos h]
theorem am_tb_ne {d : am_D} {a k b : Nat} {F : Nat → Int32} (h : b ≠ a) : am_tb d a k F b = d b := by unfold am_tb; exact am_nd_ne h
/-- the last k places, downwards -/
def am_td (d : am_D) (a k N : Nat) (F : Nat → Int32) : am_D := am_nd d a (fun j => if k ≤ j ∧ j < N then F j else d a j)
theorem am_td_N (d : am_D) (a N : Nat) (F : Nat → Int32) : am_td d a N N F = d := by
  funext b; unfold am_td am_nd
  by_cases h : b = a
  · subst h; simp only [if_true]; funext j; rw [if_neg (by omega)]
  · simp [h]
theorem am_td_s (d : am_D) (a k N : Nat) (F : Nat → Int32) (hk : k < N) : am_u (am_td d a (k + 1) N F) a k (F k) = am_td d a k N F := by
  funext b j; unfold am_u am_td am_nd
  by_cases h1 : b = a
  · by_cases h2 : j = k
    · simp [h1, h2, hk]
    · by_cases h3 : k + 1 ≤ j ∧ j < N
      · simp [h1, h2, h3, show k ≤ j by omega]
      · have h4 : ¬ (k ≤ j ∧ j < N) := by omega
        simp [h1, h2, h3, h4]
  · simp [h1]
theorem am_td_lt {d : am_D} {a k N j : Nat} {F : Nat → Int32} (h : j < k) : am_td d a k N F a j = d a j := by unfold am_td; rw [am_nd_self, if_neg (by omega)]
theorem am_td_ne {d : am_D} {a k N b : Nat} {F : Nat → Int32} (h : b ≠ a) : am_td d a k N F b = d b := by unfold am_td; exact am_nd_ne h
theorem am_td_tb (d : am_D) (a N : Nat) (F : Nat → Int32) : am_td d a 0 N F = am_tb d a N F := by
  funext b; unfold am_td am_tb am_nd
  by_cases h : b = a
  · simp [h]
  · simp [h]
theorem am_tb_congr (d : am_D) (a k : Nat) {F G : Nat → Int32} (h : ∀ j, j < k → F j = G j) : am_tb d a k F = am_tb d a k G := by
  funext b j; unfold am_tb am_nd
  by_cases h1 : b = a
  · by_cases h2 : j < k
    · simp [h1, h2, h j h2]
    · simp [h1, h2]
  · simp [h1]
/-- join: the greatest sums over the sets within each set -/
theorem c_A_join {l : Launch} {x : am_X} {e : Nat} {S : am_S} {nn : Nat} {d : am_D} (a b : Nat) (f g : Nat → Int) (hka : (S a).1 = 0) (hkb : (S b).1 = 0) (hla : (S a).2.1 = 64) (hlb : (S b).2.1 = 64) (ha : a < nn) (hb : b < nn) (hab : a ≠ b) (hf : ∀ s, s < 64 → d a s = zI (f s)) (hg : ∀ s, s < 64 → d b s = zI (g s)) (Bf : ∀ s, s < 64 → -500000000 ≤ f s ∧ f s ≤ 500000000) (Bg : ∀ s, s < 64 → -500000000 ≤ g s ∧ g s ≤ 500000000) : am_Met l K0 x (e + 1) 0 0 m_A_join [.ref a, .ref b] S nn d (am_Ret none S nn (am_tb d a 64 (fun j => zI (jn f g j)))) := by
  refine am_enter (by decide) (by simp [Value.category]) (Nat.le_of_ble_eq_true rfl) ?_
  refine am_go cd_A_join hc_A_join 0 2 (pc' := 3) (L' := [some (.ref a), some (.ref b), some (.int 63), none, none]) (st' := []) rfl ?_
  have loop : ∀ k, k ≤ 64 → am_W l K0 x (e + 1) 0 0 m_A_join 3 [some (.ref a), some (.ref b), some (.int (nI k - 1)), none, none] [] S nn (am_td d a k 64 (fun j => zI (jn f g j))) (am_Ret none S nn (am_tb d a 64 (fun j => zI (jn f g j)))) := by
    intro k
    induction k with
    | zero =>
      intro hk
      refine am_go cd_A_join hc_A_join 2 1 (pc' := 4) (L' := [some (.ref a), some (.ref b), some (.int (nI 0 - 1)), none, none]) (st' := [.int (nI 0 - 1)]) rfl ?_
      refine am_if_lt 60 (am_at hc_A_join 3 rfl) (by decide) (fun h => ?_) (fun h => absurd (by decide) h)
      exact am_vret (am_at hc_A_join 41 rfl) rfl ⟨rfl, rfl, rfl, am_td_tb _ _ _ _⟩
    | succ s ih =>
      intro hk
      rw [nI_pred]
      refine am_go cd_A_join hc_A_join 2 1 (pc' := 4) (L' := [some (.ref a), some (.ref b), some (.int (nI s)), none, none]) (st' := [.int (nI s)]) rfl ?_
      refine am_if_lt 60 (am_at hc_A_join 3 rfl) (by decide) (fun h => absurd h (nI_pos (by omega))) (fun h => ?_)
      have hs : s < 64 := by omega
      generalize hD : am_td d a (s + 1) 64 (fun j => zI (jn f g j)) = D
      have hDa : ∀ j, j ≤ s → D a j = zI (f j) := fun j hj => by rw [← hD, am_td_lt (by omega)]; exact hf j (by omega)
      have hDb : ∀ j, j < 64 → D b j = zI (g j) := fun j hj => by rw [← hD, am_td_ne (Ne.symm hab)]; exact hg j hj
      refine am_go cd_A_join hc_A_join 4 2 (pc' := 9) (L' := [some (.ref a), some (.ref b), some (.int (nI s)), none, none]) (st' := [.int 0, .ref a]) rfl ?_
      refine am_iaload (0) (am_at hc_A_join 6 rfl) hka (Or.inl ha) rfl (by omega) (by omega) ?_
      rw [show D a 0 = zI (f 0) from hDa 0 (by omega)]
      refine am_go cd_A_join hc_A_join 7 2 (pc' := 12) (L' := [some (.ref a), some (.ref b), some (.int (nI s)), none, none]) (st' := [.int (nI s), .ref b, .int (zI (f 0))]) rfl ?_
      refine am_iaload (s) (am_at hc_A_join 9 rfl) hkb (Or.inl hb) rfl (by omega) (by omega) ?_
      rw [show D b s = zI (g s) from hDb s hs]
      refine am_go cd_A_join hc_A_join 10 1 (pc' := 14) (L' := [some (.ref a), some (.ref b), some (.int (nI s)), none, none]) (st' := [.int (zI (f 0) + zI (g s))]) rfl ?_
      rw [show zI (f 0) + zI (g s) = zI (f 0 + g s) from zI_add _ _]
      refine am_go cd_A_join hc_A_join 11 3 (pc' := 18) (L' := [some (.ref a), some (.ref b), some (.int (nI s)), some (.int (zI (f 0 + g s))), some (.int (nI s))]) (st' := []) rfl ?_
      have inner : ∀ (F p : Nat) (v : Int), p ≤ F → p ≤ s → p &&& s = p → -1000000000 ≤ v → v ≤ 1000000000 → am_W l K0 x (e + 1) 0 0 m_A_join 50 [some (.ref a), some (.ref b), some (.int (nI s)), some (.int (zI (jn_in f g s F p v))), none] [] S nn D (am_Ret none S nn (am_tb d a 64 (fun j => zI (jn f g j)))) → am_W l K0 x (e + 1) 0 0 m_A_join 18 [some (.ref a), some (.ref b), some (.int (nI s)), some (.int (zI v)), some (.int (nI p))] [] S nn D (am_Ret none S nn (am_tb d a 64 (fun j => zI (jn f g j)))) := by
        intro F
        induction F with
        | zero =>
          intro p v hp hps hpp hv1 hv2 kk
          have hp0 : p = 0 := by omega
          subst hp0
          refine am_go cd_A_join hc_A_join 14 1 (pc' := 20) (L' := [some (.ref a), some (.ref b), some (.int (nI s)), some (.int (zI v)), some (.int (nI 0))]) (st' := [.int (nI 0)]) rfl ?_
          refine am_if_le 50 (am_at hc_A_join 15 rfl) (by decide) (fun h => ?_) (fun h => absurd (by decide) h)
          refine am_weak (L' := [some (.ref a), some (.ref b), some (.int (nI s)), some (.int (zI v)), none]) ⟨rfl, rfl, rfl, rfl, trivial⟩ ?_
          exact kk
        | succ F ihF =>
          intro p v hp hps hpp hv1 hv2 kk
          unfold jn_in at kk
          refine am_go cd_A_join hc_A_join 14 1 (pc' := 20) (L' := [some (.ref a), some (.ref b), some (.int (nI s)), some (.int (zI v)), some (.int (nI p))]) (st' := [.int (nI p)]) rfl ?_
          refine am_if_le 50 (am_at hc_A_join 15 rfl) (by decide) (fun h => ?_) (fun h => ?_)
          · have hp0 : p = 0 := by by_cases z : p = 0; exact z; exact absurd h (nI_nle (by omega) (by omega))
            rw [if_pos hp0] at kk
            refine am_weak (L' := [some (.ref a), some (.ref b), some (.int (nI s)), some (.int (zI v)), none]) ⟨rfl, rfl, rfl, rfl, trivial⟩ ?_
            exact kk
          · have hp0 : ¬ p = 0 := fun z => h (by rw [z]; decide)
            rw [if_neg hp0] at kk
            have bf := Bf p (by omega)
            have bg := Bg (s - p) (by omega)
            refine am_go cd_A_join hc_A_join 16 3 (pc' := 27) (L' := [some (.ref a), some (.ref b), some (.int (nI s)), some (.int (zI v)), some (.int (nI p))]) (st' := [.int (nI p), .ref a, .int (zI v)]) rfl ?_
            refine am_iaload (p) (am_at hc_A_join 19 rfl) hka (Or.inl ha) rfl (by omega) (by omega) ?_
            rw [show D a p = zI (f p) from hDa p hps]
            refine am_go cd_A_join hc_A_join 20 4 (pc' := 33) (L' := [some (.ref a), some (.ref b), some (.int (nI s)), some (.int (zI v)), some (.int (nI p))]) (st' := [.int (nI s - nI p), .ref b, .int (zI (f p)), .int (zI v)]) rfl ?_
            refine am_iaload (s - p) (am_at hc_A_join 24 rfl) hkb (Or.inl hb) (pk_sub hps) (by omega) (by omega) ?_
            rw [show D b (s - p) = zI (g (s - p)) from hDb _ (by omega)]
            refine am_go cd_A_join hc_A_join 25 1 (pc' := 35) (L' := [some (.ref a), some (.ref b), some (.int (nI s)), some (.int (zI v)), some (.int (nI p))]) (st' := [.int (zI (f p) + zI (g (s - p))), .int (zI v)]) rfl ?_
            rw [show zI (f p) + zI (g (s - p)) = zI (f p + g (s - p)) from zI_add _ _]
            refine am_mmax (am_at hc_A_join 26 rfl) (tw 215 rfl rfl) (tw 216 rfl rfl) (tw 6 rfl rfl) (tw 217 rfl rfl) (Nat.le_of_ble_eq_true rfl) ?_
            rw [show (if zI v < zI (f p + g (s - p)) then zI (f p + g (s - p)) else zI v) = zI (max v (f p + g (s - p))) from zI_max (by omega) (by omega) (by omega) (by omega)]
            refine am_go cd_A_join hc_A_join 27 4 (pc' := 43) (L' := [some (.ref a), some (.ref b), some (.int (nI s)), some (.int (zI (max v (f p + g (s - p))))), some (.int (nI p))]) (st' := [.int (nI p - 1)]) rfl ?_
            obtain ⟨q, rfl⟩ : ∃ q, p = q + 1 := ⟨p - 1, by omega⟩
            rw [show nI (q + 1) - 1 = nI q from nI_pred q]
            refine am_go cd_A_join hc_A_join 31 2 (pc' := 45) (L' := [some (.ref a), some (.ref b), some (.int (nI s)), some (.int (zI (max v (f (q + 1) + g (s - (q + 1)))))), some (.int (nI (q + 1)))]) (st' := [.int (nI q &&& nI s)]) rfl ?_
            rw [show nI q &&& nI s = nI (q &&& s) from nI_and _ _]
            refine am_go cd_A_join hc_A_join 33 2 (pc' := 18) (L' := [some (.ref a), some (.ref b), some (.int (nI s)), some (.int (zI (max v (f (q + 1) + g (s - (q + 1)))))), some (.int (nI (q &&& s)))]) (st' := []) rfl ?_
            refine ihF (q &&& s) _ ?_ (Nat.and_le_right) ?_ (by omega) (by omega) kk
            · have := @Nat.and_le_left q s; omega
            · rw [Nat.and_assoc, Nat.and_self]
      have b0 := Bf 0 (by omega)
      have bs := Bg s hs
      refine inner 64 s (f 0 + g s) (by omega) (Nat.le_refl _) (Nat.and_self s) (by omega) (by omega) ?_
      show am_W l K0 x (e + 1) 0 0 m_A_join 50 [some (.ref a), some (.ref b), some (.int (nI s)), some (.int (zI (jn f g s))), none] [] S nn D (am_Ret none S nn (am_tb d a 64 (fun j => zI (jn f g j))))
      refine am_go cd_A_join hc_A_join 35 3 (pc' := 53) (L' := [some (.ref a), some (.ref b), some (.int (nI s)), some (.int (zI (jn f g s))), none]) (st' := [.int (zI (jn f g s)), .int (nI s), .ref a]) rfl ?_
      refine am_iastore (s) (am_at hc_A_join 38 rfl) hka ha rfl (by omega) (by omega) ?_
      refine am_go cd_A_join hc_A_join 39 2 (pc' := 3) (L' := [some (.ref a), some (.ref b), some (.int (nI s + (-1))), some (.int (zI (jn f g s))), none]) (st' := []) rfl ?_
      refine am_weak (L' := [some (.ref a), some (.ref b), some (.int (nI s + (-1))), none, none]) ⟨rfl, rfl, rfl, trivial⟩ ?_
      rw [i_dec, ← hD, am_td_s d a s 64 (fun j => zI (jn f g j)) hs]
      exact ih (by omega)
  have h0 := loop 64 (Nat.le_refl _)
  rw [am_td_N] at h0
  exact h0
theorem c_B_keepGreater {l : Launch} {x : am_X} {e L : Nat} {d : am_D} (a : Nat) (f g : Nat → Int) (hka : (SH L a).1 = 0) (hla : (SH L a).2.1 = 64) (ha : a < 53) (h15 : 15 ≠ a) (hf : ∀ s, s < 64 → d a s = zI (f s)) (hg : ∀ s, s < 64 → d 15 s = zI (g s)) (Bf : ∀ s, s < 64 → -500000000 ≤ f s ∧ f s ≤ 500000000) (Bg : ∀ s, s < 64 → -500000000 ≤ g s ∧ g s ≤ 500000000) : cM l x (e + 1) L m_B_keepGreater [.ref 13, .ref a] d (cR none (am_tb d a 64 (fun j => zI (max (f j) (g j))))) := by
  refine cM.go (by decide) (by simp [Value.category]) (Nat.le_of_ble_eq_true rfl) ?_
  refine am_go cd_B_keepGreater hc_B_keepGreater 0 2 (pc' := 2) (L' := [some (.ref 13), some (.ref a), some (.int 0)]) (st' := []) rfl ?_
  have loop : ∀ k j, j + k = 64 → cW l x (e + 1) L m_B_keepGreater 2 [some (.ref 13), some (.ref a), some (.int (nI j))] [] (am_tb d a j (fun j => zI (max (f j) (g j)))) (cR none (am_tb d a 64 (fun j => zI (max (f j) (g j))))) := by
    intro k
    induction k with
    | zero =>
      intro j hj
      refine am_go cd_B_keepGreater hc_B_keepGreater 2 2 (pc' := 5) (L' := [some (.ref 13), some (.ref a), some (.int (nI j))]) (st' := [.int 64, .int (nI j)]) rfl ?_
      refine am_icmp_ge 29 (am_at hc_B_keepGreater 4 rfl) (by decide) (fun h => ?_) (fun h => absurd (nI_le (a := 64) (b := j) (by omega) (by omega)) h)
      exact am_vret (am_at hc_B_keepGreater 18 rfl) rfl (cR_in rfl (by rw [show j = 64 by omega]))
    | succ k ih =>
      intro j hj
      refine am_go cd_B_keepGreater hc_B_keepGreater 2 2 (pc' := 5) (L' := [some (.ref 13), some (.ref a), some (.int (nI j))]) (st' := [.int 64, .int (nI j)]) rfl ?_
      refine am_icmp_ge 29 (am_at hc_B_keepGreater 4 rfl) (by decide) (fun h => absurd h (nI_ge (a := j) (b := 64) (by omega) (by omega))) (fun h => ?_)
      have bf := Bf j (by omega)
      have bg := Bg j (by omega)
      refine am_go cd_B_keepGreater hc_B_keepGreater 5 4 (pc' := 12) (L' := [some (.ref 13), some (.ref a), some (.int (nI j))]) (st' := [.int (nI j), .ref a, .int (nI j), .ref a]) rfl ?_
      refine am_iaload (j) (am_at hc_B_keepGreater 9 rfl) hka (Or.inl ha) rfl (by rw [hla]; omega) (by rw [hla]; omega) ?_
      rw [show am_tb d a j (fun j => zI (max (f j) (g j))) a j = zI (f j) from (am_tb_ge (Nat.le_refl _)).trans (hf j (by omega))]
      refine am_go cd_B_keepGreater hc_B_keepGreater 10 1 (pc' := 14) (L' := [some (.ref 13), some (.ref a), some (.int (nI j))]) (st' := [.ref 13, .int (zI (f j)), .int (nI j), .ref a]) rfl ?_
      refine am_getf 1 5 k_r1 (am_at hc_B_keepGreater 11 rfl) rfl (by decide) rfl (by decide) k_ok1 (Or.inl (tw 31 rfl rfl)) rfl ?_
      refine am_go cd_B_keepGreater hc_B_keepGreater 12 1 (pc' := 18) (L' := [some (.ref 13), some (.ref a), some (.int (nI j))]) (st' := [.int (nI j), .ref 15, .int (zI (f j)), .int (nI j), .ref a]) rfl ?_
      refine am_iaload (j) (am_at hc_B_keepGreater 13 rfl) rfl (Or.inl (by decide)) rfl (by show j < 64; omega) (Nat.le_of_ble_eq_true rfl) ?_
      rw [show am_tb d a j (fun j => zI (max (f j) (g j))) 15 j = zI (g j) from (congrFun (am_tb_ne h15) j).trans (hg j (by omega))]
      refine am_mmax (am_at hc_B_keepGreater 14 rfl) (tw 225 rfl rfl) (tw 216 rfl rfl) (tw 6 rfl rfl) (tw 217 rfl rfl) (Nat.le_of_ble_eq_true rfl) ?_
      rw [show (if zI (f j) < zI (g j) then zI (g j) else zI (f j)) = zI (max (f j) (g j)) from zI_max (by omega) (by omega) (by omega) (by omega)]
      refine am_iastore (j) (am_at hc_B_keepGreater 15 rfl) hka ha rfl (by rw [hla]; omega) (by rw [hla]; omega) ?_
      refine am_go cd_B_keepGreater hc_B_keepGreater 16 2 (pc' := 2) (L' := [some (.ref 13), some (.ref a), some (.int (nI j + 1))]) (st' := []) rfl ?_
      rw [nI_1, am_tb_s d a j (fun j => zI (max (f j) (g j)))]
      exact ih (j + 1) (by omega)
  have h0 := loop 64 0 rfl
  rw [am_tb_0] at h0
  exact h0
theorem c_B_capValue {l : Launch} {x : am_X} {e L : Nat} {d : am_D} (g : Nat → Int) (v : Int) (hg : ∀ s, s < 64 → d 15 s = zI (g s)) (Bg : ∀ s, s < 64 → -500000000 ≤ g s ∧ g s ≤ 500000000) (hv : d 13 3 = zI v) (hv1 : 0 ≤ v) (hv2 : v ≤ 500000000) : cM l x (e + 1) L m_B_capValue [.ref 13] d (cR none (am_tb d 15 64 (fun j => zI (min (g j) v)))) := by
  refine cM.go (by decide) (by simp [Value.category]) (Nat.le_of_ble_eq_true rfl) ?_
  refine am_go cd_B_capValue hc_B_capValue 0 2 (pc' := 2) (L' := [some (.ref 13), some (.int 0)]) (st' := []) rfl ?_
  have loop : ∀ k j, j + k = 64 → cW l x (e + 1) L m_B_capValue 2 [some (.ref 13), some (.int (nI j))] [] (am_tb d 15 j (fun j => zI (min (g j) v))) (cR none (am_tb d 15 64 (fun j => zI (min (g j) v)))) := by
    intro k
    induction k with
    | zero =>
      intro j hj
      refine am_go cd_B_capValue hc_B_capValue 2 2 (pc' := 5) (L' := [some (.ref 13), some (.int (nI j))]) (st' := [.int 64, .int (nI j)]) rfl ?_
      refine am_icmp_ge 33 (am_at hc_B_capValue 4 rfl) (by decide) (fun h => ?_) (fun h => absurd (nI_le (a := 64) (b := j) (by omega) (by omega)) h)
      exact am_vret (am_at hc_B_capValue 18 rfl) rfl (cR_in rfl (by rw [show j = 64 by omega]))
    | succ k ih =>
      intro j hj
      refine am_go cd_B_capValue hc_B_capValue 2 2 (pc' := 5) (L' := [some (.ref 13), some (.int (nI j))]) (st' := [.int 64, .int (nI j)]) rfl ?_
      refine am_icmp_ge 33 (am_at hc_B_capValue 4 rfl) (by decide) (fun h => absurd h (nI_ge (a := j) (b := 64) (by omega) (by omega))) (fun h => ?_)
      have bg := Bg j (by omega)
      refine am_go cd_B_capValue hc_B_capValue 5 1 (pc' := 9) (L' := [some (.ref 13), some (.int (nI j))]) (st' := [.ref 13]) rfl ?_
      refine am_getf 1 5 k_r1 (am_at hc_B_capValue 6 rfl) rfl (by decide) rfl (by decide) k_ok1 (Or.inl (tw 31 rfl rfl)) rfl ?_
      refine am_go cd_B_capValue hc_B_capValue 7 2 (pc' := 14) (L' := [some (.ref 13), some (.int (nI j))]) (st' := [.ref 13, .int (nI j), .ref 15]) rfl ?_
      refine am_getf 1 5 k_r1 (am_at hc_B_capValue 9 rfl) rfl (by decide) rfl (by decide) k_ok1 (Or.inl (tw 31 rfl rfl)) rfl ?_
      refine am_go cd_B_capValue hc_B_capValue 10 1 (pc' := 18) (L' := [some (.ref 13), some (.int (nI j))]) (st' := [.int (nI j), .ref 15, .int (nI j), .ref 15]) rfl ?_
      refine am_iaload (j) (am_at hc_B_capValue 11 rfl) rfl (Or.inl (by decide)) rfl (by show j < 64; omega) (Nat.le_of_ble_eq_true rfl) ?_
      rw [show am_tb d 15 j (fun j => zI (min (g j) v)) 15 j = zI (g j) from (am_tb_ge (Nat.le_refl _)).trans (hg j (by omega))]
      refine am_go cd_B_capValue hc_B_capValue 12 1 (pc' := 20) (L' := [some (.ref 13), some (.int (nI j))]) (st' := [.ref 13, .int (zI (g j)), .int (nI j), .ref 15]) rfl ?_
      refine am_getf 1 3 k_r1 (am_at hc_B_capValue 13 rfl) rfl (by decide) rfl (by decide) k_ok1 (Or.inl (tw 28 rfl rfl)) (congrArg Value.int ((congrFun (am_tb_ne (by decide)) 3).trans hv)) ?_
      refine am_mmin (am_at hc_B_capValue 14 rfl) (tw 209 rfl rfl) (tw 210 rfl rfl) (tw 6 rfl rfl) (tw 211 rfl rfl) (Nat.le_of_ble_eq_true rfl) ?_
      rw [show (if zI v < zI (g j) then zI v else zI (g j)) = zI (min (g j) v) from zI_min (by omega) (by omega) (by omega) (by omega)]
      refine am_iastore (j) (am_at hc_B_capValue 15 rfl) rfl (by decide) rfl (by show j < 64; omega) (Nat.le_of_ble_eq_true rfl) ?_
      refine am_go cd_B_capValue hc_B_capValue 16 2 (pc' := 2) (L' := [some (.ref 13), some (.int (nI j + 1))]) (st' := []) rfl ?_
      rw [nI_1, am_tb_s d 15 j (fun j => zI (min (g j) v))]
      exact ih (j + 1) (by omega)
  have h0 := loop 64 0 rfl
  rw [am_tb_0] at h0
  exact h0
end
section
theorem am_u_o {d : am_D} {a j b k : Nat} {v : Int32} (h : ¬ (b = a ∧ k = j)) : am_u d a j v b k = d b k := by unfold am_u; rw [if_neg h]
theorem am_u_i {d : am_D} {a j : Nat} {v : Int32} : am_u d a j v a j = v := by unfold am_u; rw [if_pos ⟨rfl, rfl⟩]
theorem bI_t : bI true = 1 := rfl
theorem bI_f : bI false = 0 := rfl
/-- number and place set -/
def rnD (d : am_D) (p : Nat) (v : Int32) : am_D := am_u (am_u d 13 3 v) 13 2 (nI p)
theorem rnD_s (d : am_D) (p q : Nat) (v w : Int32) : am_u (am_u (rnD d p v) 13 3 w) 13 2 (nI q) = rnD d q w := by
  funext b k; unfold rnD am_u
  by_cases h1 : b = 13 ∧ k = 2
  · simp [h1]
  · by_cases h2 : b = 13 ∧ k = 3
    · simp [h2]
    · simp [h1, h2]
theorem rnD_2 (d : am_D) (p : Nat) (v : Int32) : rnD d p v 13 2 = nI p := am_u_i
theorem rnD_3 (d : am_D) (p : Nat) (v : Int32) : rnD d p v 13 3 = v := by unfold rnD; rw [am_u_o (by decide), am_u_i]
theorem rnD_ok {d : am_D} {T : Nat → Nat} {n : Nat} (h : rd_ok d T n) (p : Nat) (v : Int32) : rd_ok (rnD d p v) T n := h.to (by unfold rnD; rw [am_u_o (by decide), am_u_o (by decide)]) (by unfold rnD; rw [am_u_ne 14 (by decide), am_u_ne 14 (by decide)])
theorem pr_dg_lt {T : Nat → Nat} {n p : Nat} (h : pr_dg T n p = true) : p < n ∧ 48 ≤ T p ∧ T p ≤ 57 := of_decide_eq_true h
theorem pr_lt_lt {T : Nat → Nat} {n p : Nat} (h : pr_lt T n p = true) : p < n ∧ 97 ≤ T p ∧ T p ≤ 102 := of_decide_eq_true h
theorem pr_se_lt {T : Nat → Nat} {n p c : Nat} (h : pr_se T n p c = true) : p < n ∧ T p = c := of_decide_eq_true h
theorem c_B_readNumber {l : Launch} {x : am_X} {e L : Nat} {d : am_D} {T : Nat → Nat} {n : Nat} (hr : rd_ok d T n) {p : Nat} (hp : d 13 2 = nI p) (hp2 : p ≤ 900) : cM l x (e + 1) L m_B_readNumber [.ref 13] d (cR (some (.int (bI (pr_dg T n p)))) (if pr_dg T n p = true then rnD d (pr_num T n 3 p 0).1 (nI (pr_num T n 3 p 0).2) else d)) := by
  refine cM.go (by decide) (by simp [Value.category]) (Nat.le_of_ble_eq_true rfl) ?_
  have hn := hr.2.1
  refine am_go cd_B_readNumber hc_B_readNumber 0 1 (pc' := 1) (L' := [some (.ref 13), none]) (st' := [.ref 13]) rfl ?_
  refine cW.callV1 4 [.int (bI (pr_dg T n p))] (st := []) [] (am_at hc_B_readNumber 1 rfl) g_B_seesDigit (Or.inl (tw 189 rfl rfl)) (tw 191 rfl rfl) (tp 9 rfl rfl) 1 k_r1 rfl (by decide) rfl rfl rfl rfl (Nat.le_of_ble_eq_true rfl) (c_B_seesDigit hr hp (Nat.le_trans hp2 (by decide))) rfl rfl ?_
  cases hg : pr_dg T n p with
  | false =>
    simp only [bI_f]
    refine am_if_ne 9 (am_at hc_B_readNumber 2 rfl) (by decide) (fun h1 => absurd rfl h1) (fun h1 => ?_)
    refine am_go cd_B_readNumber hc_B_readNumber 3 1 (pc' := 8) (L' := [some (.ref 13), none]) (st' := [.int 0]) rfl ?_
    exact am_iret (am_at hc_B_readNumber 4 rfl) rfl rfl (cR_in rfl rfl)
  | true =>
    simp only [bI_t]
    refine am_if_ne 9 (am_at hc_B_readNumber 2 rfl) (by decide) (fun h1 => ?_) (fun h1 => absurd h1 (by decide))
    refine am_go cd_B_readNumber hc_B_readNumber 5 2 (pc' := 11) (L' := [some (.ref 13), none]) (st' := [.int 0, .ref 13]) rfl ?_
    refine am_putI 1 3 k_r1 (am_at hc_B_readNumber 7 rfl) rfl (by decide) rfl (by decide) k_ok1 (tw 28 rfl rfl) rfl rfl rfl rfl ?_
    refine am_go cd_B_readNumber hc_B_readNumber 8 2 (pc' := 16) (L' := [some (.ref 13), some (.int 0)]) (st' := []) rfl ?_
    generalize hN : pr_num T n 3 p 0 = Nn
    have loop : ∀ k j q v, j + k = 3 → q ≤ p + j → pr_num T n k q v = Nn → cW l x (e + 1) L m_B_readNumber 16 [some (.ref 13), some (.int (nI j))] [] (rnD d q (nI v)) (cR (some (.int 1)) (rnD d Nn.1 (nI Nn.2))) := by
      intro k
      induction k with
      | zero =>
        intro j q v hj hq he
        refine am_go cd_B_readNumber hc_B_readNumber 10 2 (pc' := 18) (L' := [some (.ref 13), some (.int (nI j))]) (st' := [.int 3, .int (nI j)]) rfl ?_
        refine am_icmp_ge 68 (am_at hc_B_readNumber 12 rfl) (by decide) (fun h => ?_) (fun h => absurd (nI_le (a := 3) (b := j) (by omega) (by omega)) h)
        refine am_go cd_B_readNumber hc_B_readNumber 38 1 (pc' := 69) (L' := [some (.ref 13), some (.int (nI j))]) (st' := [.int 1]) rfl ?_
        exact am_iret (am_at hc_B_readNumber 39 rfl) rfl rfl (cR_in rfl (by rw [← he]; rfl))
      | succ k ih =>
        intro j q v hj hq he
        unfold pr_num at he
        refine am_go cd_B_readNumber hc_B_readNumber 10 2 (pc' := 18) (L' := [some (.ref 13), some (.int (nI j))]) (st' := [.int 3, .int (nI j)]) rfl ?_
        refine am_icmp_ge 68 (am_at hc_B_readNumber 12 rfl) (by decide) (fun h => absurd h (nI_ge (a := j) (b := 3) (by omega) (by omega))) (fun h => ?_)
        refine am_go cd_B_readNumber hc_B_readNumber 13 1 (pc' := 22) (L' := [some (.ref 13), some (.int (nI j))]) (st' := [.ref 13]) rfl ?_
        refine cW.callV1 25 [.int (bI (pr_dg T n q))] (st := []) [] (am_at hc_B_readNumber 14 rfl) g_B_seesDigit (Or.inl (tw 189 rfl rfl)) (tw 191 rfl rfl) (tp 9 rfl rfl) 1 k_r1 rfl (by decide) rfl rfl rfl rfl (Nat.le_of_ble_eq_true rfl) (c_B_seesDigit (rnD_ok hr q (nI v)) (rnD_2 d q (nI v)) (by omega)) rfl rfl ?_
        cases hg2 : pr_dg T n q with
        | false =>
          rw [hg2, if_neg (by decide)] at he
          simp only [bI_f]
          refine am_if_eq 68 (am_at hc_B_readNumber 15 rfl) (by decide) (fun h3 => ?_) (fun h3 => absurd rfl h3)
          refine am_go cd_B_readNumber hc_B_readNumber 38 1 (pc' := 69) (L' := [some (.ref 13), some (.int (nI j))]) (st' := [.int 1]) rfl ?_
          exact am_iret (am_at hc_B_readNumber 39 rfl) rfl rfl (cR_in rfl (by rw [← he]))
        | true =>
          rw [hg2, if_pos rfl] at he
          simp only [bI_t]
          refine am_if_eq 68 (am_at hc_B_readNumber 15 rfl) (by decide) (fun h3 => absurd h3 (by decide)) (fun h3 => ?_)
          obtain ⟨z1, z2, z3⟩ := pr_dg_lt hg2
          refine am_go cd_B_readNumber hc_B_readNumber 16 2 (pc' := 30) (L' := [some (.ref 13), some (.int (nI j))]) (st' := [.ref 13, .ref 13]) rfl ?_
          refine am_getf 1 3 k_r1 (am_at hc_B_readNumber 18 rfl) rfl (by decide) rfl (by decide) k_ok1 (Or.inl (tw 28 rfl rfl)) (congrArg Value.int (rnD_3 d q (nI v))) ?_
          refine am_go cd_B_readNumber hc_B_readNumber 19 3 (pc' := 37) (L' := [some (.ref 13), some (.int (nI j))]) (st' := [.ref 13, .int (nI v * 10), .ref 13]) rfl ?_
          refine am_getf 1 0 k_r1 (am_at hc_B_readNumber 22 rfl) rfl (by decide) rfl (by decide) k_ok1 (Or.inl (tw 25 rfl rfl)) rfl ?_
          refine am_go cd_B_readNumber hc_B_readNumber 23 1 (pc' := 41) (L' := [some (.ref 13), some (.int (nI j))]) (st' := [.ref 13, .ref 14, .int (nI v * 10), .ref 13]) rfl ?_
          refine am_getf 1 2 k_r1 (am_at hc_B_readNumber 24 rfl) rfl (by decide) rfl (by decide) k_ok1 (Or.inl (tw 27 rfl rfl)) (congrArg Value.int (rnD_2 d q (nI v))) ?_
          refine am_caload (q) (am_at hc_B_readNumber 25 rfl) rfl (by decide) rfl (by show q < 40; omega) (Nat.le_of_ble_eq_true rfl) ?_
          rw [show rnD d q (nI v) 14 q = nI (T q) from ((rnD_ok hr q (nI v)).2.2 q z1).1]
          refine am_go cd_B_readNumber hc_B_readNumber 26 2 (pc' := 48) (L' := [some (.ref 13), some (.int (nI j))]) (st' := [.int (nI (T q) - 48), .int (nI v * 10), .ref 13]) rfl ?_
          rw [show nI (T q) - 48 = nI (T q - 48) from pk_sub z2]
          rw [show nI v * 10 = nI (v * 10) from pk_mul v 10]
          refine am_go cd_B_readNumber hc_B_readNumber 28 1 (pc' := 49) (L' := [some (.ref 13), some (.int (nI j))]) (st' := [.int (nI (v * 10) + nI (T q - 48)), .ref 13]) rfl ?_
          rw [show nI (v * 10) + nI (T q - 48) = nI (v * 10 + (T q - 48)) from nI_add _ _]
          refine am_putI 1 3 k_r1 (am_at hc_B_readNumber 29 rfl) rfl (by decide) rfl (by decide) k_ok1 (tw 28 rfl rfl) rfl rfl rfl rfl ?_
          refine am_go cd_B_readNumber hc_B_readNumber 30 2 (pc' := 54) (L' := [some (.ref 13), some (.int (nI j))]) (st' := [.ref 13, .ref 13]) rfl ?_
          refine am_getf 1 2 k_r1 (am_at hc_B_readNumber 32 rfl) rfl (by decide) rfl (by decide) k_ok1 (Or.inl (tw 27 rfl rfl)) (congrArg Value.int ((am_u_o (by decide)).trans (rnD_2 d q (nI v)))) ?_
          refine am_go cd_B_readNumber hc_B_readNumber 33 2 (pc' := 59) (L' := [some (.ref 13), some (.int (nI j))]) (st' := [.int (nI q + 1), .ref 13]) rfl ?_
          rw [show nI q + 1 = nI (q + 1) from nI_1 _]
          refine am_putI 1 2 k_r1 (am_at hc_B_readNumber 35 rfl) rfl (by decide) rfl (by decide) k_ok1 (tw 27 rfl rfl) rfl rfl rfl rfl ?_
          refine am_go cd_B_readNumber hc_B_readNumber 36 2 (pc' := 16) (L' := [some (.ref 13), some (.int (nI j + 1))]) (st' := []) rfl ?_
          rw [nI_1, rnD_s]
          exact ih (j + 1) (q + 1) _ (by omega) (by omega) he
    have h0 := loop 3 0 p 0 rfl (by omega) hN
    have e0 : rnD d p (nI 0) = am_u d 13 3 0 := by
      unfold rnD; funext b k; unfold am_u; by_cases z : b = 13 ∧ k = 2
      · obtain ⟨rfl, rfl⟩ := z; simp [hp]
      · simp [z]; rfl
    rw [e0] at h0
    exact h0
theorem nI_sh : ∀ t, 97 ≤ t → t ≤ 102 → (1 : Int32) <<< ((nI t - 97) &&& 31) = nI (2 ^ (t - 97)) := by
  intro t h1 h2
  have h : t = 97 ∨ t = 98 ∨ t = 99 ∨ t = 100 ∨ t = 101 ∨ t = 102 := by omega
  rcases h with rfl | rfl | rfl | rfl | rfl | rfl <;> decide +kernel
theorem let_bit : ∀ m, m < 64 → ∀ i, i < 6 → ((m &&& 2 ^ i = 0 ↔ m.testBit i = false) ∧ m ||| 2 ^ i < 64) := by decide +kernel
/-- the place set -/
theorem am_u_u (d : am_D) (a j : Nat) (v w : Int32) : am_u (am_u d a j v) a j w = am_u d a j w := by
  funext b k; unfold am_u
  by_cases h1 : b = a ∧ k = j
  · simp [h1]
  · simp [h1]
theorem am_u_id {d : am_D} {a j : Nat} {v : Int32} (h : d a j = v) : am_u d a j v = d := by
  funext b k; unfold am_u
  by_cases h1 : b = a ∧ k = j
  · obtain ⟨rfl, rfl⟩ := h1; simp [h]
  · simp [h1]
theorem rd_ok_u {d : am_D} {T : Nat → Nat} {n : Nat} (h : rd_ok d T n) {j : Nat} {v : Int32} (hj : j ≠ 1) : rd_ok (am_u d 13 j v) T n := h.to (am_u_o (fun z => hj z.2.symm)) (am_u_ne 14 (by decide))
theorem pr_let_lt (T : Nat → Nat) (n : Nat) : ∀ k p m, m < 64 → (pr_let T n k p m).2 < 64
  | 0, p, m, h => h
  | k + 1, p, m, h => by
    unfold pr_let
    split
    · rename_i z
      obtain ⟨z1, z2, z3⟩ := pr_lt_lt z.1
      exact pr_let_lt T n k (p + 1) _ (let_bit m h _ (by omega)).2
    · exact h
theorem pr_let_ge (T : Nat → Nat) (n : Nat) : ∀ k p m, p ≤ (pr_let T n k p m).1 ∧ (pr_let T n k p m).1 ≤ p + k
  | 0, p, m => ⟨Nat.le_refl _, Nat.le_refl _⟩
  | k + 1, p, m => by
    unfold pr_let
    split
    · have := pr_let_ge T n k (p + 1) (m ||| 2 ^ (T p - 97)); omega
    · exact ⟨Nat.le_refl _, by omega⟩
theorem pr_num_ge (T : Nat → Nat) (n : Nat) : ∀ k p v, p ≤ (pr_num T n k p v).1 ∧ (pr_num T n k p v).1 ≤ p + k
  | 0, p, m => ⟨Nat.le_refl _, Nat.le_refl _⟩
  | k + 1, p, m => by
    unfold pr_num
    split
    · have := pr_num_ge T n k (p + 1) (m * 10 + (T p - 48)); omega
    · exact ⟨Nat.le_refl _, by omega⟩
theorem c_B_readLetters {l : Launch} {x : am_X} {e L : Nat} {d : am_D} {T : Nat → Nat} {n : Nat} (hr : rd_ok d T n) {p v : Nat} (hp : d 13 2 = nI p) (hp2 : p ≤ 900) (hv : d 13 3 = zI v) : cM l x (e + 1) L m_B_readLetters [.ref 13] d (cR (some (.int (if (pr_let T n 6 p 0).2 = 0 then 0 else 1))) (am_tb (am_u d 13 2 (nI (pr_let T n 6 p 0).1)) 15 64 (fun s => zI (pr_bun v (pr_let T n 6 p 0).2 s)))) := by
  refine cM.go (by decide) (by simp [Value.category]) (Nat.le_of_ble_eq_true rfl) ?_
  have hn := hr.2.1
  generalize hR : pr_let T n 6 p 0 = Rr
  have hR64 : Rr.2 < 64 := by rw [← hR]; exact pr_let_lt T n 6 p 0 (by decide)
  refine am_go cd_B_readLetters hc_B_readLetters 0 4 (pc' := 4) (L' := [some (.ref 13), some (.int 0), some (.int 0), none]) (st' := []) rfl ?_
  have loop2 : ∀ k j, j + k = 64 → cW l x (e + 1) L m_B_readLetters 63 [some (.ref 13), some (.int (nI Rr.2)), some (.int (nI j)), none] [] (am_tb (am_u d 13 2 (nI Rr.1)) 15 j (fun s => zI (pr_bun v Rr.2 s))) (cR (some (.int (if Rr.2 = 0 then 0 else 1))) (am_tb (am_u d 13 2 (nI Rr.1)) 15 64 (fun s => zI (pr_bun v Rr.2 s)))) := by
    intro k
    induction k with
    | zero =>
      intro j hj
      refine am_go cd_B_readLetters hc_B_readLetters 39 2 (pc' := 66) (L' := [some (.ref 13), some (.int (nI Rr.2)), some (.int (nI j)), none]) (st' := [.int 64, .int (nI j)]) rfl ?_
      refine am_icmp_ge 96 (am_at hc_B_readLetters 41 rfl) (by decide) (fun h => ?_) (fun h => absurd (nI_le (a := 64) (b := j) (by omega) (by omega)) h)
      refine am_go cd_B_readLetters hc_B_readLetters 57 1 (pc' := 97) (L' := [some (.ref 13), some (.int (nI Rr.2)), some (.int (nI j)), none]) (st' := [.int (nI Rr.2)]) rfl ?_
      refine am_if_eq 104 (am_at hc_B_readLetters 58 rfl) (by decide) (fun h3 => ?_) (fun h3 => ?_)
      · have z : Rr.2 = 0 := (nI_eq (b := 0) (by omega) (by omega)).mp h3
        refine am_go cd_B_readLetters hc_B_readLetters 61 1 (pc' := 105) (L' := [some (.ref 13), some (.int (nI Rr.2)), some (.int (nI j)), none]) (st' := [.int 0]) rfl ?_
        exact am_iret (am_at hc_B_readLetters 62 rfl) rfl rfl (cR_in (by rw [if_pos z]) (by rw [show j = 64 by omega]))
      · have z : ¬ Rr.2 = 0 := fun z => h3 (by rw [z]; rfl)
        refine am_go cd_B_readLetters hc_B_readLetters 59 2 (pc' := 105) (L' := [some (.ref 13), some (.int (nI Rr.2)), some (.int (nI j)), none]) (st' := [.int 1]) rfl ?_
        exact am_iret (am_at hc_B_readLetters 62 rfl) rfl rfl (cR_in (by rw [if_neg z]) (by rw [show j = 64 by omega]))
    | succ k ih =>
      intro j hj
      refine am_go cd_B_readLetters hc_B_readLetters 39 2 (pc' := 66) (L' := [some (.ref 13), some (.int (nI Rr.2)), some (.int (nI j)), none]) (st' := [.int 64, .int (nI j)]) rfl ?_
      refine am_icmp_ge 96 (am_at hc_B_readLetters 41 rfl) (by decide) (fun h => absurd h (nI_ge (a := j) (b := 64) (by omega) (by omega))) (fun h => ?_)
      refine am_go cd_B_readLetters hc_B_readLetters 42 1 (pc' := 70) (L' := [some (.ref 13), some (.int (nI Rr.2)), some (.int (nI j)), none]) (st' := [.ref 13]) rfl ?_
      refine am_getf 1 5 k_r1 (am_at hc_B_readLetters 43 rfl) rfl (by decide) rfl (by decide) k_ok1 (Or.inl (tw 31 rfl rfl)) rfl ?_
      refine am_go cd_B_readLetters hc_B_readLetters 44 4 (pc' := 77) (L' := [some (.ref 13), some (.int (nI Rr.2)), some (.int (nI j)), none]) (st' := [.int (nI j &&& nI Rr.2), .int (nI j), .ref 15]) rfl ?_
      rw [show nI j &&& nI Rr.2 = nI (j &&& Rr.2) from nI_and _ _]
      refine am_go cd_B_readLetters hc_B_readLetters 48 1 (pc' := 78) (L' := [some (.ref 13), some (.int (nI Rr.2)), some (.int (nI j)), none]) (st' := [.int (nI Rr.2), .int (nI (j &&& Rr.2)), .int (nI j), .ref 15]) rfl ?_
      have hle : j &&& Rr.2 ≤ Rr.2 := Nat.and_le_right
      refine am_icmp_ne 88 (am_at hc_B_readLetters 49 rfl) (by decide) (fun h3 => ?_) (fun h3 => ?_)
      · have z : ¬ (j &&& Rr.2 = Rr.2) := fun z => h3 (by rw [z])
        refine am_go cd_B_readLetters hc_B_readLetters 53 1 (pc' := 89) (L' := [some (.ref 13), some (.int (nI Rr.2)), some (.int (nI j)), none]) (st' := [.int 0, .int (nI j), .ref 15]) rfl ?_
        refine am_iastore (j) (am_at hc_B_readLetters 54 rfl) rfl (by decide) rfl (by show j < 64; omega) (Nat.le_of_ble_eq_true rfl) ?_
        refine am_go cd_B_readLetters hc_B_readLetters 55 2 (pc' := 63) (L' := [some (.ref 13), some (.int (nI Rr.2)), some (.int (nI j + 1)), none]) (st' := []) rfl ?_
        have e1 := am_tb_s (am_u d 13 2 (nI Rr.1)) 15 j (fun s => zI (pr_bun v Rr.2 s))
        rw [show zI (pr_bun v Rr.2 j) = 0 from by unfold pr_bun; rw [if_neg z]; rfl] at e1
        rw [nI_1, e1]
        exact ih (j + 1) (by omega)
      · have z : j &&& Rr.2 = Rr.2 := (nI_eq (by omega) (by omega)).mp h3
        refine am_go cd_B_readLetters hc_B_readLetters 50 1 (pc' := 82) (L' := [some (.ref 13), some (.int (nI Rr.2)), some (.int (nI j)), none]) (st' := [.ref 13, .int (nI j), .ref 15]) rfl ?_
        refine am_getf 1 3 k_r1 (am_at hc_B_readLetters 51 rfl) rfl (by decide) rfl (by decide) k_ok1 (Or.inl (tw 28 rfl rfl)) (congrArg Value.int ((congrFun (am_tb_ne (by decide)) 3).trans ((am_u_o (by decide)).trans hv))) ?_
        refine am_go cd_B_readLetters hc_B_readLetters 52 1 (pc' := 89) (L' := [some (.ref 13), some (.int (nI Rr.2)), some (.int (nI j)), none]) (st' := [.int (zI v), .int (nI j), .ref 15]) rfl ?_
        refine am_iastore (j) (am_at hc_B_readLetters 54 rfl) rfl (by decide) rfl (by show j < 64; omega) (Nat.le_of_ble_eq_true rfl) ?_
        refine am_go cd_B_readLetters hc_B_readLetters 55 2 (pc' := 63) (L' := [some (.ref 13), some (.int (nI Rr.2)), some (.int (nI j + 1)), none]) (st' := []) rfl ?_
        have e1 := am_tb_s (am_u d 13 2 (nI Rr.1)) 15 j (fun s => zI (pr_bun v Rr.2 s))
        rw [show zI (pr_bun v Rr.2 j) = zI v from by unfold pr_bun; rw [if_pos z]] at e1
        rw [nI_1, e1]
        exact ih (j + 1) (by omega)
  have mid : cW l x (e + 1) L m_B_readLetters 61 [some (.ref 13), some (.int (nI Rr.2)), none, none] [] (am_u d 13 2 (nI Rr.1)) (cR (some (.int (if Rr.2 = 0 then 0 else 1))) (am_tb (am_u d 13 2 (nI Rr.1)) 15 64 (fun s => zI (pr_bun v Rr.2 s)))) := by
    refine am_go cd_B_readLetters hc_B_readLetters 37 2 (pc' := 63) (L' := [some (.ref 13), some (.int (nI Rr.2)), some (.int 0), none]) (st' := []) rfl ?_
    have h0 := loop2 64 0 rfl
    rw [am_tb_0] at h0
    exact h0
  have loop : ∀ k j q m, j + k = 6 → q ≤ p + j → m < 64 → pr_let T n k q m = Rr → cW l x (e + 1) L m_B_readLetters 4 [some (.ref 13), some (.int (nI m)), some (.int (nI j)), none] [] (am_u d 13 2 (nI q)) (cR (some (.int (if Rr.2 = 0 then 0 else 1))) (am_tb (am_u d 13 2 (nI Rr.1)) 15 64 (fun s => zI (pr_bun v Rr.2 s)))) := by
    intro k
    induction k with
    | zero =>
      intro j q m hj hq hm he
      refine am_go cd_B_readLetters hc_B_readLetters 4 2 (pc' := 7) (L' := [some (.ref 13), some (.int (nI m)), some (.int (nI j)), none]) (st' := [.int 6, .int (nI j)]) rfl ?_
      refine am_icmp_ge 61 (am_at hc_B_readLetters 6 rfl) (by decide) (fun h => ?_) (fun h => absurd (nI_le (a := 6) (b := j) (by omega) (by omega)) h)
      unfold pr_let at he
      have hq1 : q = Rr.1 := congrArg Prod.fst he
      have hm1 : m = Rr.2 := congrArg Prod.snd he
      refine am_weak (L' := [some (.ref 13), some (.int (nI m)), none, none]) ⟨rfl, rfl, trivial⟩ ?_
      rw [hq1, hm1]
      exact mid
    | succ k ih =>
      intro j q m hj hq hm he
      unfold pr_let at he
      refine am_go cd_B_readLetters hc_B_readLetters 4 2 (pc' := 7) (L' := [some (.ref 13), some (.int (nI m)), some (.int (nI j)), none]) (st' := [.int 6, .int (nI j)]) rfl ?_
      refine am_icmp_ge 61 (am_at hc_B_readLetters 6 rfl) (by decide) (fun h => absurd h (nI_ge (a := j) (b := 6) (by omega) (by omega))) (fun h => ?_)
      refine am_go cd_B_readLetters hc_B_readLetters 7 1 (pc' := 11) (L' := [some (.ref 13), some (.int (nI m)), some (.int (nI j)), none]) (st' := [.ref 13]) rfl ?_
      refine cW.callV1 14 [.int (bI (pr_lt T n q))] (st := []) [] (am_at hc_B_readLetters 8 rfl) g_B_seesLetter (Or.inl (tw 197 rfl rfl)) (tw 199 rfl rfl) (tp 11 rfl rfl) 1 k_r1 rfl (by decide) rfl rfl rfl rfl (Nat.le_of_ble_eq_true rfl) (c_B_seesLetter (rd_ok_u hr (by decide)) am_u_i (by omega)) rfl rfl ?_
      cases hg2 : pr_lt T n q with
      | false =>
        rw [hg2, if_neg (fun z => by cases z.1)] at he
        simp only [bI_f]
        refine am_if_eq 61 (am_at hc_B_readLetters 9 rfl) (by decide) (fun h3 => ?_) (fun h3 => absurd rfl h3)
        have hq1 : q = Rr.1 := congrArg Prod.fst he
        have hm1 : m = Rr.2 := congrArg Prod.snd he
        refine am_weak (L' := [some (.ref 13), some (.int (nI m)), none, none]) ⟨rfl, rfl, trivial⟩ ?_
        rw [hq1, hm1]
        exact mid
      | true =>
        simp only [bI_t]
        refine am_if_eq 61 (am_at hc_B_readLetters 9 rfl) (by decide) (fun h3 => absurd h3 (by decide)) (fun h3 => ?_)
        obtain ⟨z1, z2, z3⟩ := pr_lt_lt hg2
        have hbit := let_bit m hm (T q - 97) (by omega)
        refine am_go cd_B_readLetters hc_B_readLetters 10 2 (pc' := 19) (L' := [some (.ref 13), some (.int (nI m)), some (.int (nI j)), none]) (st' := [.ref 13, .int 1]) rfl ?_
        refine am_getf 1 0 k_r1 (am_at hc_B_readLetters 12 rfl) rfl (by decide) rfl (by decide) k_ok1 (Or.inl (tw 25 rfl rfl)) rfl ?_
        refine am_go cd_B_readLetters hc_B_readLetters 13 1 (pc' := 23) (L' := [some (.ref 13), some (.int (nI m)), some (.int (nI j)), none]) (st' := [.ref 13, .ref 14, .int 1]) rfl ?_
        refine am_getf 1 2 k_r1 (am_at hc_B_readLetters 14 rfl) rfl (by decide) rfl (by decide) k_ok1 (Or.inl (tw 27 rfl rfl)) (congrArg Value.int am_u_i) ?_
        refine am_caload (q) (am_at hc_B_readLetters 15 rfl) rfl (by decide) rfl (by show q < 40; omega) (Nat.le_of_ble_eq_true rfl) ?_
        rw [show am_u d 13 2 (nI q) 14 q = nI (T q) from (congrFun (am_u_ne 14 (by decide)) q).trans (hr.2.2 q z1).1]
        refine am_go cd_B_readLetters hc_B_readLetters 16 3 (pc' := 31) (L' := [some (.ref 13), some (.int (nI m)), some (.int (nI j)), none]) (st' := [.int (1 <<< ((nI (T q) - 97) &&& 31))]) rfl ?_
        rw [nI_sh (T q) z2 z3]
        refine am_go cd_B_readLetters hc_B_readLetters 19 4 (pc' := 35) (L' := [some (.ref 13), some (.int (nI m)), some (.int (nI j)), some (.int (nI (2 ^ (T q - 97))))]) (st' := [.int (nI m &&& nI (2 ^ (T q - 97)))]) rfl ?_
        rw [show nI m &&& nI (2 ^ (T q - 97)) = nI (m &&& 2 ^ (T q - 97)) from nI_and _ _]
        have hle : m &&& 2 ^ (T q - 97) ≤ m := Nat.and_le_left
        refine am_if_eq 41 (am_at hc_B_readLetters 23 rfl) (by decide) (fun h4 => ?_) (fun h4 => ?_)
        · have z4 : m &&& 2 ^ (T q - 97) = 0 := (nI_eq (b := 0) (by omega) (by omega)).mp h4
          rw [if_pos ⟨hg2, hbit.1.mp z4⟩] at he
          refine am_go cd_B_readLetters hc_B_readLetters 25 3 (pc' := 44) (L' := [some (.ref 13), some (.int (nI m)), some (.int (nI j)), some (.int (nI (2 ^ (T q - 97))))]) (st' := [.int (nI m ||| nI (2 ^ (T q - 97)))]) rfl ?_
          rw [show nI m ||| nI (2 ^ (T q - 97)) = nI (m ||| 2 ^ (T q - 97)) from nI_or _ _]
          refine am_go cd_B_readLetters hc_B_readLetters 28 3 (pc' := 47) (L' := [some (.ref 13), some (.int (nI (m ||| 2 ^ (T q - 97)))), some (.int (nI j)), some (.int (nI (2 ^ (T q - 97))))]) (st' := [.ref 13, .ref 13]) rfl ?_
          refine am_getf 1 2 k_r1 (am_at hc_B_readLetters 31 rfl) rfl (by decide) rfl (by decide) k_ok1 (Or.inl (tw 27 rfl rfl)) (congrArg Value.int am_u_i) ?_
          refine am_go cd_B_readLetters hc_B_readLetters 32 2 (pc' := 52) (L' := [some (.ref 13), some (.int (nI (m ||| 2 ^ (T q - 97)))), some (.int (nI j)), some (.int (nI (2 ^ (T q - 97))))]) (st' := [.int (nI q + 1), .ref 13]) rfl ?_
          rw [show nI q + 1 = nI (q + 1) from nI_1 _]
          refine am_putI 1 2 k_r1 (am_at hc_B_readLetters 34 rfl) rfl (by decide) rfl (by decide) k_ok1 (tw 27 rfl rfl) rfl rfl rfl rfl ?_
          refine am_go cd_B_readLetters hc_B_readLetters 35 2 (pc' := 4) (L' := [some (.ref 13), some (.int (nI (m ||| 2 ^ (T q - 97)))), some (.int (nI j + 1)), some (.int (nI (2 ^ (T q - 97))))]) (st' := []) rfl ?_
          refine am_weak (L' := [some (.ref 13), some (.int (nI (m ||| 2 ^ (T q - 97)))), some (.int (nI j + 1)), none]) ⟨rfl, rfl, rfl, trivial⟩ ?_
          rw [nI_1, am_u_u]
          exact ih (j + 1) (q + 1) _ (by omega) (by omega) hbit.2 he
        · have z4 : ¬ (m.testBit (T q - 97) = false) := fun z => h4 (by rw [hbit.1.mpr z]; rfl)
          rw [if_neg (fun z => z4 z.2)] at he
          have hq1 : q = Rr.1 := congrArg Prod.fst he
          have hm1 : m = Rr.2 := congrArg Prod.snd he
          refine am_go cd_B_readLetters hc_B_readLetters 24 1 (pc' := 61) (L' := [some (.ref 13), some (.int (nI m)), some (.int (nI j)), some (.int (nI (2 ^ (T q - 97))))]) (st' := []) rfl ?_
          refine am_weak (L' := [some (.ref 13), some (.int (nI m)), none, none]) ⟨rfl, rfl, trivial⟩ ?_
          rw [hq1, hm1]
          exact mid
  have h0 := loop 6 0 p 0 rfl (by omega) (by decide) hR
  rw [am_u_id hp] at h0
  exact h0
theorem c_B_add {l : Launch} {x : am_X} {e L : Nat} {d : am_D} {n : Nat} (v : Int32) (hl : d 13 1 = nI n) (hn : n ≤ 40) : cM l x e L m_B_add [.ref 13, .int v] d (cR (some (.int (if v < 32 ∨ 126 < v ∨ 40 ≤ n then 0 else 1))) (if v < 32 ∨ 126 < v ∨ 40 ≤ n then d else am_u (am_u d 14 n (vp_nar .char v)) 13 1 (nI (n + 1)))) := by
  refine cM.go (by decide) (by simp [Value.category]) (Nat.le_of_ble_eq_true rfl) ?_
  refine am_go cd_B_add hc_B_add 0 2 (pc' := 3) (L' := [some (.ref 13), some (.int v)]) (st' := [.int 32, .int v]) rfl ?_
  refine am_icmp_lt 21 (am_at hc_B_add 2 rfl) (by decide) (fun h1 => ?_) (fun h1 => ?_)
  · simp only [if_pos (Or.inl h1 : v < 32 ∨ 126 < v ∨ 40 ≤ n)]
    refine am_go cd_B_add hc_B_add 10 1 (pc' := 22) (L' := [some (.ref 13), some (.int v)]) (st' := [.int 0]) rfl ?_
    exact am_iret (am_at hc_B_add 11 rfl) rfl rfl (cR_in rfl rfl)
  · skip
    refine am_go cd_B_add hc_B_add 3 2 (pc' := 9) (L' := [some (.ref 13), some (.int v)]) (st' := [.int 126, .int v]) rfl ?_
    refine am_icmp_gt 21 (am_at hc_B_add 5 rfl) (by decide) (fun h2 => ?_) (fun h2 => ?_)
    · simp only [if_pos (Or.inr (Or.inl h2) : v < 32 ∨ 126 < v ∨ 40 ≤ n)]
      refine am_go cd_B_add hc_B_add 10 1 (pc' := 22) (L' := [some (.ref 13), some (.int v)]) (st' := [.int 0]) rfl ?_
      exact am_iret (am_at hc_B_add 11 rfl) rfl rfl (cR_in rfl rfl)
    · skip
      refine am_go cd_B_add hc_B_add 6 1 (pc' := 13) (L' := [some (.ref 13), some (.int v)]) (st' := [.ref 13]) rfl ?_
      refine am_getf 1 1 k_r1 (am_at hc_B_add 7 rfl) rfl (by decide) rfl (by decide) k_ok1 (Or.inl (tw 26 rfl rfl)) (congrArg Value.int hl) ?_
      refine am_go cd_B_add hc_B_add 8 1 (pc' := 18) (L' := [some (.ref 13), some (.int v)]) (st' := [.int 40, .int (nI n)]) rfl ?_
      refine am_icmp_lt 23 (am_at hc_B_add 9 rfl) (by decide) (fun h3 => ?_) (fun h3 => ?_)
      · have z : n < 40 := (nI_ltI (b := 40) (by omega) (by omega)).mp h3
        have hno : ¬ (v < 32 ∨ 126 < v ∨ 40 ≤ n) := fun q => by rcases q with q | q | q; exact h1 q; exact h2 q; omega
        simp only [if_neg hno]
        refine am_go cd_B_add hc_B_add 12 1 (pc' := 24) (L' := [some (.ref 13), some (.int v)]) (st' := [.ref 13]) rfl ?_
        refine am_getf 1 0 k_r1 (am_at hc_B_add 13 rfl) rfl (by decide) rfl (by decide) k_ok1 (Or.inl (tw 25 rfl rfl)) rfl ?_
        refine am_go cd_B_add hc_B_add 14 1 (pc' := 28) (L' := [some (.ref 13), some (.int v)]) (st' := [.ref 13, .ref 14]) rfl ?_
        refine am_getf 1 1 k_r1 (am_at hc_B_add 15 rfl) rfl (by decide) rfl (by decide) k_ok1 (Or.inl (tw 26 rfl rfl)) (congrArg Value.int hl) ?_
        refine am_go cd_B_add hc_B_add 16 1 (pc' := 32) (L' := [some (.ref 13), some (.int v)]) (st' := [.int v, .int (nI n), .ref 14]) rfl ?_
        refine am_castore (n) (am_at hc_B_add 17 rfl) rfl (by decide) rfl (by show n < 40; omega) (Nat.le_of_ble_eq_true rfl) ?_
        refine am_go cd_B_add hc_B_add 18 2 (pc' := 35) (L' := [some (.ref 13), some (.int v)]) (st' := [.ref 13, .ref 13]) rfl ?_
        refine am_getf 1 1 k_r1 (am_at hc_B_add 20 rfl) rfl (by decide) rfl (by decide) k_ok1 (Or.inl (tw 26 rfl rfl)) (congrArg Value.int ((am_u_o (by omega)).trans hl)) ?_
        refine am_go cd_B_add hc_B_add 21 2 (pc' := 40) (L' := [some (.ref 13), some (.int v)]) (st' := [.int (nI n + 1), .ref 13]) rfl ?_
        rw [show nI n + 1 = nI (n + 1) from nI_1 _]
        refine am_putI 1 1 k_r1 (am_at hc_B_add 23 rfl) rfl (by decide) rfl (by decide) k_ok1 (tw 26 rfl rfl) rfl rfl rfl rfl ?_
        refine am_go cd_B_add hc_B_add 24 1 (pc' := 44) (L' := [some (.ref 13), some (.int v)]) (st' := [.int 1]) rfl ?_
        exact am_iret (am_at hc_B_add 25 rfl) rfl rfl (cR_in rfl rfl)
      · have z : 40 ≤ n := Nat.not_lt.mp (fun q => h3 ((nI_ltI (b := 40) (by omega) (by omega)).mpr q))
        simp only [if_pos (Or.inr (Or.inr z) : v < 32 ∨ 126 < v ∨ 40 ≤ n)]
        refine am_go cd_B_add hc_B_add 10 1 (pc' := 22) (L' := [some (.ref 13), some (.int v)]) (st' := [.int 0]) rfl ?_
        exact am_iret (am_at hc_B_add 11 rfl) rfl rfl (cR_in rfl rfl)
end
section
/-! what the reader's tables are: within 999 an item, growing with the set -/
def pcn (s : Nat) : Nat := s % 2 + s / 2 % 2 + s / 4 % 2 + s / 8 % 2 + s / 16 % 2 + s / 32 % 2
def tb_ok (v : Nat → Int) : Prop := (∀ s, s < 64 → 0 ≤ v s ∧ v s ≤ 999 * pcn s) ∧ ∀ s t, t < 64 → s &&& t = s → v s ≤ v t
theorem sub_lt {s t : Nat} (ht : t < 64) (h : s &&& t = s) : s < 64 := by rw [← h]; exact Nat.lt_of_le_of_lt Nat.and_le_right ht
theorem sub_le {s t : Nat} (h : s &&& t = s) : s ≤ t := by rw [← h]; exact Nat.and_le_right
theorem pcn_all : (List.range 64).all (fun t => (List.range 64).all (fun s => !(decide (s &&& t = s)) || (decide (pcn s + pcn (t - s) = pcn t) && decide (t - s = t &&& (63 - s))))) = true := by decide +kernel
theorem pcn_sub {s t : Nat} (ht : t < 64) (h : s &&& t = s) : pcn s + pcn (t - s) = pcn t ∧ t - s = t &&& (63 - s) := by
  have h1 := List.all_eq_true.mp (List.all_eq_true.mp pcn_all t (List.mem_range.mpr ht)) s (List.mem_range.mpr (sub_lt ht h))
  simp only [h, decide_true, Bool.not_true, Bool.false_or, Bool.and_eq_true, decide_eq_true_eq] at h1
  exact h1
theorem pcn_le : ∀ s, s < 64 → pcn s ≤ 6 := by decide +kernel
theorem pcn_pos : ∀ s, s < 64 → s ≠ 0 → 1 ≤ pcn s := by decide +kernel
theorem tb_ok.b {v : Nat → Int} (h : tb_ok v) {s : Nat} (hs : s < 64) : 0 ≤ v s ∧ v s ≤ 5994 := by
  have h1 := h.1 s hs
  have h2 := pcn_le s hs
  omega
theorem tb_ok.big {v : Nat → Int} (h : tb_ok v) : ∀ s, s < 64 → -500000000 ≤ v s ∧ v s ≤ 500000000 := fun s hs => by have := h.b hs; omega
theorem tb_ok.zero {v : Nat → Int} (h : tb_ok v) : v 0 = 0 := by
  have := h.1 0 (by decide)
  have e : pcn 0 = 0 := rfl
  rw [e] at this; omega
theorem tb_0 : tb_ok (fun _ => 0) := ⟨fun s _ => ⟨Int.le_refl _, by dsimp only; omega⟩, fun _ _ _ _ => Int.le_refl _⟩
theorem tb_bun {v m : Nat} (hv : v ≤ 999) (hm : m ≠ 0) : tb_ok (pr_bun v m) := by
  refine ⟨fun s hs => ?_, fun s t ht hst => ?_⟩
  · unfold pr_bun
    split
    · rename_i h
      have : s ≠ 0 := fun z => hm (by rw [z] at h; simpa using h.symm)
      have := pcn_pos s hs this
      omega
    · omega
  · unfold pr_bun
    by_cases h : s &&& m = m
    · rw [if_pos h, if_pos]
      · exact Int.le_refl _
      · rw [← h, ← Nat.and_assoc, Nat.and_comm t s, hst]
    · rw [if_neg h]; split <;> omega
theorem tb_min {f : Nat → Int} {v : Nat} (h : tb_ok f) : tb_ok (fun s => min (f s) v) :=
  ⟨fun s hs => by have := h.1 s hs; dsimp only; omega, fun s t ht hst => by have := h.2 s t ht hst; dsimp only; omega⟩
theorem tb_max {f g : Nat → Int} (h : tb_ok f) (h2 : tb_ok g) : tb_ok (fun s => max (f s) (g s)) :=
  ⟨fun s hs => by have := h.1 s hs; have := h2.1 s hs; dsimp only; omega, fun s t ht hst => by have := h.2 s t ht hst; have := h2.2 s t ht hst; dsimp only; omega⟩
theorem sub_mono {p s t : Nat} (ht : t < 64) (hps : p &&& s = p) (hst : s &&& t = s) : p &&& t = p ∧ (s - p) &&& (t - p) = s - p := by
  have hpt : p &&& t = p := by rw [← hps, Nat.and_assoc, hst]
  refine ⟨hpt, ?_⟩
  rw [(pcn_sub (sub_lt ht hst) hps).2, (pcn_sub ht hpt).2]
  rw [show (s &&& (63 - p)) &&& (t &&& (63 - p)) = (s &&& t) &&& ((63 - p) &&& (63 - p)) by rw [Nat.and_assoc, Nat.and_assoc]; congr 1; rw [← Nat.and_assoc, Nat.and_comm (63 - p) t, Nat.and_assoc]]
  rw [hst, Nat.and_self]
theorem sub_diff {p s : Nat} (hs : s < 64) (h : p &&& s = p) : (s - p) &&& s = s - p := by
  rw [(pcn_sub hs h).2, Nat.and_assoc, Nat.and_comm (63 - p) s, ← Nat.and_assoc, Nat.and_self]
theorem tb_jn {f g : Nat → Int} (hf : tb_ok f) (hg : tb_ok g) : tb_ok (jn f g) := by
  refine ⟨fun s hs => ?_, fun s t ht hst => ?_⟩
  · obtain ⟨p, hp, e⟩ := jn_is f g hs
    have h1 := hf.1 p (sub_lt hs hp)
    have h2 := hg.1 (s - p) (by omega)
    have h3 := (pcn_sub hs hp).1
    rw [e]; omega
  · obtain ⟨p, hp, e⟩ := jn_is f g (sub_lt ht hst)
    obtain ⟨h1, h2⟩ := sub_mono ht hp hst
    have h3 := jn_ge f g ht h1
    have h4 := hg.2 (s - p) (t - p) (by omega) h2
    rw [e]; omega
theorem pr_num_b (T : Nat → Nat) (n : Nat) : ∀ k p v, (pr_num T n k p v).2 + 1 ≤ (v + 1) * 10 ^ k
  | 0, p, v => by simp [pr_num]
  | k + 1, p, v => by
    unfold pr_num
    split
    · rename_i h
      have h1 := pr_num_b T n k (p + 1) (v * 10 + (T p - 48))
      have h2 := pr_dg_lt h
      have h3 : (v * 10 + (T p - 48) + 1) * 10 ^ k ≤ ((v + 1) * 10) * 10 ^ k := Nat.mul_le_mul_right _ (by omega)
      rw [show (v + 1) * 10 ^ (k + 1) = ((v + 1) * 10) * 10 ^ k by rw [Nat.pow_succ, Nat.mul_assoc, Nat.mul_comm (10 ^ k) 10]]
      omega
    · show v + 1 ≤ _
      exact Nat.le_mul_of_pos_right _ (Nat.pow_pos (by decide))
theorem pr_num_999 (T : Nat → Nat) (n p : Nat) : (pr_num T n 3 p 0).2 ≤ 999 := by have := pr_num_b T n 3 p 0; omega
theorem pr_num_n (T : Nat → Nat) (n : Nat) : ∀ k p v, p ≤ n → (pr_num T n k p v).1 ≤ n
  | 0, p, v, h => h
  | k + 1, p, v, h => by
    unfold pr_num
    split
    · rename_i h2
      exact pr_num_n T n k (p + 1) _ (pr_dg_lt h2).1
    · exact h
theorem pr_let_n (T : Nat → Nat) (n : Nat) : ∀ k p v, p ≤ n → (pr_let T n k p v).1 ≤ n
  | 0, p, v, h => h
  | k + 1, p, v, h => by
    unfold pr_let
    split
    · rename_i h2
      exact pr_let_n T n k (p + 1) _ (pr_lt_lt h2.1).1
    · exact h
def pr_good (n : Nat) (r : pr_R) : Prop := r.1 ≤ n ∧ ∀ c v, r.2 = some (c, v) → c ≤ 12 ∧ tb_ok v
theorem pr_good_none {n q : Nat} (h : q ≤ n) : pr_good n (q, none) := ⟨h, fun _ _ z => by cases z⟩
theorem pr_good_some {n q c : Nat} {v : Nat → Int} (h : q ≤ n) (hc : c ≤ 12) (hv : tb_ok v) : pr_good n (q, some (c, v)) := ⟨h, fun _ _ z => by cases z; exact ⟨hc, hv⟩⟩
theorem pr_bundle_good {T : Nat → Nat} {n p c : Nat} (hp : p ≤ n) : pr_good n (pr_bundle T n p c) := by
  have h1 := pr_num_n T n 3 p 0 hp
  have h2 := pr_let_n T n 6 (pr_num T n 3 p 0).1 0 h1
  unfold pr_bundle
  split
  · exact pr_good_none hp
  · split
    · exact pr_good_none hp
    · split
      · exact pr_good_none h2
      · rename_i hc _ hm
        exact pr_good_some h2 (by omega) (tb_bun (pr_num_999 T n p) hm)
def pr_B (n : Nat) (B : Option (Nat → Nat → pr_R)) : Prop := ∀ f, B = some f → ∀ p c, p ≤ n → c ≤ 12 → pr_good n (f p c)
theorem pr_atom_good {T : Nat → Nat} {n : Nat} {B : Option (Nat → Nat → pr_R)} (hB : pr_B n B) {p c : Nat} (hp : p ≤ n) (hc : c ≤ 12) : pr_good n (pr_atom T n B p c) := by
  unfold pr_atom
  split
  · exact pr_bundle_good hp
  · rename_i h
    have hp1 : p < n := (pr_se_lt (by simpa using h)).1
    cases B with
    | none => exact pr_good_none hp
    | some f =>
      have hg := hB f rfl (p + 1) c hp1 hc
      dsimp only
      cases hr : f (p + 1) c with
      | mk q o =>
        rw [hr] at hg
        cases o with
        | none => exact pr_good_none hg.1
        | some r =>
          dsimp only
          split
          · rename_i h2
            exact ⟨(pr_se_lt h2).1, hg.2⟩
          · exact pr_good_none hg.1
theorem pr_capl_good {T : Nat → Nat} {n : Nat} : ∀ (k p c : Nat) (v : Nat → Int), p ≤ n → c ≤ 12 → tb_ok v → pr_good n (pr_capl T n k p c v)
  | 0, p, c, v, hp, _, _ => pr_good_none hp
  | k + 1, p, c, v, hp, hc, hv => by
    unfold pr_capl
    split
    · exact pr_good_some hp hc hv
    · rename_i h
      have hp1 : p < n := (pr_se_lt (by simpa using h)).1
      split
      · exact pr_good_none hp
      · split
        · exact pr_good_none hp1
        · exact pr_capl_good k _ _ _ (pr_num_n T n 3 (p + 1) 0 hp1) (by omega) (tb_min hv)
theorem pr_cap_good {T : Nat → Nat} {n : Nat} {B : Option (Nat → Nat → pr_R)} (hB : pr_B n B) {p c : Nat} (hp : p ≤ n) (hc : c ≤ 12) : pr_good n (pr_cap T n B p c) := by
  have hg := pr_atom_good (T := T) hB hp hc
  unfold pr_cap
  cases hr : pr_atom T n B p c with
  | mk q o =>
    rw [hr] at hg
    cases o with
    | none => exact pr_good_none hg.1
    | some r => exact pr_capl_good 13 q r.1 r.2 hg.1 (hg.2 r.1 r.2 rfl).1 (hg.2 r.1 r.2 rfl).2
theorem pr_suml_good {T : Nat → Nat} {n : Nat} {B : Option (Nat → Nat → pr_R)} (hB : pr_B n B) : ∀ (k p c : Nat) (v : Nat → Int), p ≤ n → c ≤ 12 → tb_ok v → pr_good n (pr_suml T n B k p c v)
  | 0, p, c, v, hp, _, _ => pr_good_none hp
  | k + 1, p, c, v, hp, hc, hv => by
    have hg := pr_cap_good (T := T) hB hp hc
    unfold pr_suml
    cases hr : pr_cap T n B p c with
    | mk q o =>
      rw [hr] at hg
      cases o with
      | none => exact pr_good_none hg.1
      | some r =>
        have h1 := hg.2 r.1 r.2 rfl
        dsimp only
        split
        · exact pr_good_some hg.1 h1.1 (tb_jn hv h1.2)
        · rename_i h
          have hp1 : q < n := (pr_se_lt (by simpa using h)).1
          split
          · exact pr_good_none hg.1
          · exact pr_suml_good hB k _ _ _ hp1 (by omega) (tb_jn hv h1.2)
theorem pr_bidl_good {T : Nat → Nat} {n : Nat} {B : Option (Nat → Nat → pr_R)} (hB : pr_B n B) : ∀ (k p c : Nat) (v : Nat → Int), p ≤ n → c ≤ 12 → tb_ok v → pr_good n (pr_bidl T n B k p c v)
  | 0, p, c, v, hp, _, _ => pr_good_none hp
  | k + 1, p, c, v, hp, hc, hv => by
    have hg : pr_good n (pr_sum T n B p c) := pr_suml_good hB 13 p c _ hp hc tb_0
    unfold pr_bidl
    cases hr : pr_sum T n B p c with
    | mk q o =>
      rw [hr] at hg
      cases o with
      | none => exact pr_good_none hg.1
      | some r =>
        have h1 := hg.2 r.1 r.2 rfl
        dsimp only
        split
        · exact pr_good_some hg.1 h1.1 (tb_max hv h1.2)
        · rename_i h
          have hp1 : q < n := (pr_se_lt (by simpa using h)).1
          split
          · exact pr_good_none hg.1
          · exact pr_bidl_good hB k _ _ _ hp1 (by omega) (tb_max hv h1.2)
theorem pr_bidk_good {T : Nat → Nat} {n : Nat} : ∀ k p c, p ≤ n → c ≤ 12 → pr_good n (pr_bidk T n k p c)
  | 0, p, c, hp, hc => pr_bidl_good (fun f z => by cases z) 13 p c _ hp hc tb_0
  | k + 1, p, c, hp, hc => pr_bidl_good (fun f z => by cases z; exact fun p c hp hc => pr_bidk_good k p c hp hc) 13 p c _ hp hc tb_0
/-- what a reading leaves: the place, and what was read; all else but the reader's own rows -/
def rdF (kc ks : Nat) (d d' : am_D) : Prop := (∀ a, a ≠ 13 → a ≠ 15 → ¬ (17 + kc ≤ a ∧ a < 26) → ¬ (27 + ks ≤ a ∧ a < 36) → d' a = d a) ∧ ∀ j, j ≠ 2 → j ≠ 3 → j ≠ 4 → d' 13 j = d 13 j
theorem rdF.rf {kc ks : Nat} {d : am_D} : rdF kc ks d d := ⟨fun _ _ _ _ _ => rfl, fun _ _ _ _ => rfl⟩
theorem rdF.tr {kc ks : Nat} {d d1 d2 : am_D} (h : rdF kc ks d d1) (h2 : rdF kc ks d1 d2) : rdF kc ks d d2 := ⟨fun a z1 z2 z3 z4 => (h2.1 a z1 z2 z3 z4).trans (h.1 a z1 z2 z3 z4), fun j z1 z2 z3 => (h2.2 j z1 z2 z3).trans (h.2 j z1 z2 z3)⟩
theorem rdF.wd {kc ks kc' ks' : Nat} {d d' : am_D} (h : rdF kc' ks' d d') (h1 : kc ≤ kc') (h2 : ks ≤ ks') : rdF kc ks d d' := ⟨fun a z1 z2 z3 z4 => h.1 a z1 z2 (by omega) (by omega), h.2⟩
theorem rdF.u {kc ks : Nat} {d : am_D} {j : Nat} {v : Int32} (hj : j = 2 ∨ j = 3 ∨ j = 4) : rdF kc ks d (am_u d 13 j v) := ⟨fun a z _ _ _ => am_u_ne a z, fun i z1 z2 z3 => am_u_o (fun z => by omega)⟩
theorem rdF.t15 {kc ks k : Nat} {d : am_D} {F : Nat → Int32} : rdF kc ks d (am_tb d 15 k F) := ⟨fun a _ z _ _ => am_tb_ne z, fun i _ _ _ => congrFun (am_tb_ne (by decide)) i⟩
theorem rdF.rn {kc ks : Nat} {d : am_D} {p : Nat} {v : Int32} : rdF kc ks d (rnD d p v) := (rdF.u (by decide)).tr (rdF.u (by decide))
theorem rdF.ok {kc ks : Nat} {d d' : am_D} {T : Nat → Nat} {n : Nat} (h : rdF kc ks d d') (hr : rd_ok d T n) : rd_ok d' T n := hr.to (h.2 1 (by decide) (by decide) (by decide)) (h.1 14 (by decide) (by decide) (by omega) (by omega))
def rdQ (kc ks : Nat) (d : am_D) (r : pr_R) : Option Value → am_D → Prop := fun ret d' => ret = some (.int (bI r.2.isSome)) ∧ d' 13 2 = nI r.1 ∧ rdF kc ks d d' ∧ ∀ c v, r.2 = some (c, v) → d' 13 4 = nI c ∧ ∀ s, s < 64 → d' 15 s = zI (v s)
end
section
set_option maxHeartbeats 4000000 in
theorem c_B_readAtom {l : Launch} {x : am_X} {L M : Nat} {T : Nat → Nat} {n k : Nat} {B : Option (Nat → Nat → pr_R)} (hn : n ≤ 40) (hB : pr_B n B) (hk : (B = none ∧ k = 8) ∨ ∃ f, B = some f ∧ k < 8 ∧ ∀ (e : Nat) (d : am_D) (p c : Nat), rd_ok d T n → d 13 2 = nI p → d 13 4 = nI c → p ≤ n → c ≤ 12 → cM l x (e + M + 3) L m_B_readBid [.ref 13, .int (nI (k + 1))] d (rdQ (k + 1) (k + 1) d (f p c))) (e : Nat) (d : am_D) (p c : Nat) (hr : rd_ok d T n) (hp : d 13 2 = nI p) (hc : d 13 4 = nI c) (hpn : p ≤ n) (hc12 : c ≤ 12) : cM l x (e + M + 4) L m_B_readAtom [.ref 13, .int (nI k)] d (rdQ (k + 1) (k + 1) d (pr_atom T n B p c)) := by
  refine cM.go (by decide) (by simp [Value.category]) (Nat.le_of_ble_eq_true rfl) ?_
  refine am_go cd_B_readAtom hc_B_readAtom 0 2 (pc' := 3) (L' := [some (.ref 13), some (.int (nI k))]) (st' := [.int 40, .ref 13]) rfl ?_
  refine cW.callV1 6 [.int (bI (pr_se T n p 40))] (st := []) [.int 40] (am_at hc_B_readAtom 2 rfl) g_B_sees (Or.inl (tw 177 rfl rfl)) (tw 179 rfl rfl) (tp 6 rfl rfl) 1 k_r1 rfl (by decide) rfl rfl rfl rfl (Nat.le_of_ble_eq_true rfl) (c_B_sees hr 40 (by decide) hp (by omega)) rfl rfl ?_
  cases hg : pr_se T n p 40 with
  | false =>
    have eA : pr_atom T n B p c = pr_bundle T n p c := by unfold pr_atom; rw [if_pos hg]
    rw [eA]
    simp only [bI_f]
    refine am_if_ne 36 (am_at hc_B_readAtom 3 rfl) (by decide) (fun h1 => absurd rfl h1) (fun h1 => ?_)
    refine am_go cd_B_readAtom hc_B_readAtom 4 1 (pc' := 10) (L' := [some (.ref 13), some (.int (nI k))]) (st' := [.ref 13]) rfl ?_
    refine cW.callV1 13 [.int (if 12 ≤ c then 0 else 1)] (st := []) [] (am_at hc_B_readAtom 5 rfl) g_B_beginPart (Or.inl (tw 181 rfl rfl)) (tw 183 rfl rfl) (tp 7 rfl rfl) 1 k_r1 rfl (by decide) rfl rfl rfl rfl (Nat.le_of_ble_eq_true rfl) (c_B_beginPart hc (by omega)) rfl rfl ?_
    by_cases h2 : 12 ≤ c
    · have eB : pr_bundle T n p c = (p, none) := by unfold pr_bundle; rw [if_pos h2]
      rw [eB]
      simp only [if_pos h2]
      refine am_if_eq 34 (am_at hc_B_readAtom 6 rfl) (by decide) (fun h3 => ?_) (fun h3 => absurd rfl h3)
      refine am_go cd_B_readAtom hc_B_readAtom 15 1 (pc' := 35) (L' := [some (.ref 13), some (.int (nI k))]) (st' := [.int 0]) rfl ?_
      exact am_iret (am_at hc_B_readAtom 16 rfl) rfl rfl ⟨rfl, rfl, rfl, hp, rdF.rf, fun _ _ z => by cases z⟩
    · simp only [if_neg h2]
      refine am_if_eq 34 (am_at hc_B_readAtom 6 rfl) (by decide) (fun h3 => absurd h3 (by decide)) (fun h3 => ?_)
      refine am_go cd_B_readAtom hc_B_readAtom 7 1 (pc' := 17) (L' := [some (.ref 13), some (.int (nI k))]) (st' := [.ref 13]) rfl ?_
      have hr1 : rd_ok (am_u d 13 4 (nI (c + 1))) T n := rd_ok_u hr (by decide)
      have hp1 : am_u d 13 4 (nI (c + 1)) 13 2 = nI p := (am_u_o (by decide)).trans hp
      refine cW.callV1 20 [.int (bI (pr_dg T n p))] (st := []) [] (am_at hc_B_readAtom 8 rfl) g_B_readNumber (Or.inl (tw 185 rfl rfl)) (tw 187 rfl rfl) (tp 8 rfl rfl) 1 k_r1 rfl (by decide) rfl rfl rfl rfl (Nat.le_of_ble_eq_true rfl) (c_B_readNumber hr1 hp1 (by omega)) rfl rfl ?_
      cases hg2 : pr_dg T n p with
      | false =>
        have eB : pr_bundle T n p c = (p, none) := by unfold pr_bundle; rw [if_neg h2, if_pos hg2]
        rw [eB]
        simp only [bI_f]
        refine am_if_eq 34 (am_at hc_B_readAtom 9 rfl) (by decide) (fun h4 => ?_) (fun h4 => absurd rfl h4)
        refine am_go cd_B_readAtom hc_B_readAtom 15 1 (pc' := 35) (L' := [some (.ref 13), some (.int (nI k))]) (st' := [.int 0]) rfl ?_
        exact am_iret (am_at hc_B_readAtom 16 rfl) rfl rfl ⟨rfl, rfl, rfl, hp1, rdF.u (by decide), fun _ _ z => by cases z⟩
      | true =>
        simp only [bI_t, if_true]
        refine am_if_eq 34 (am_at hc_B_readAtom 9 rfl) (by decide) (fun h4 => absurd h4 (by decide)) (fun h4 => ?_)
        refine am_go cd_B_readAtom hc_B_readAtom 10 1 (pc' := 24) (L' := [some (.ref 13), some (.int (nI k))]) (st' := [.ref 13]) rfl ?_
        have eB : pr_bundle T n p c = if (pr_let T n 6 (pr_num T n 3 p 0).1 0).2 = 0 then ((pr_let T n 6 (pr_num T n 3 p 0).1 0).1, none) else ((pr_let T n 6 (pr_num T n 3 p 0).1 0).1, some (c + 1, pr_bun (pr_num T n 3 p 0).2 (pr_let T n 6 (pr_num T n 3 p 0).1 0).2)) := by unfold pr_bundle; rw [if_neg h2, if_neg (by rw [hg2]; decide)]
        rw [eB]
        have hpn2 := pr_num_n T n 3 p 0 hpn
        generalize pr_num T n 3 p 0 = N3 at hpn2 ⊢
        refine cW.callV1 27 [.int (if (pr_let T n 6 N3.1 0).2 = 0 then 0 else 1)] (st := []) [] (am_at hc_B_readAtom 11 rfl) g_B_readLetters (Or.inl (tw 193 rfl rfl)) (tw 195 rfl rfl) (tp 10 rfl rfl) 1 k_r1 rfl (by decide) rfl rfl rfl rfl (Nat.le_of_ble_eq_true rfl) (c_B_readLetters (v := N3.2) (rnD_ok hr1 N3.1 (nI N3.2)) (rnD_2 _ _ _) (by omega) ((rnD_3 _ _ _).trans (nI_zI _))) rfl rfl ?_
        generalize pr_let T n 6 N3.1 0 = L6
        have hF : rdF (k + 1) (k + 1) d (am_tb (am_u (rnD (am_u d 13 4 (nI (c + 1))) N3.1 (nI N3.2)) 13 2 (nI L6.1)) 15 64 (fun s => zI (pr_bun N3.2 L6.2 s))) := (((rdF.u (by decide)).tr rdF.rn).tr (rdF.u (by decide))).tr rdF.t15
        have hP : am_tb (am_u (rnD (am_u d 13 4 (nI (c + 1))) N3.1 (nI N3.2)) 13 2 (nI L6.1)) 15 64 (fun s => zI (pr_bun N3.2 L6.2 s)) 13 2 = nI L6.1 := (congrFun (am_tb_ne (by decide)) 2).trans am_u_i
        by_cases h5 : L6.2 = 0
        · simp only [if_pos h5]
          refine am_if_eq 34 (am_at hc_B_readAtom 12 rfl) (by decide) (fun h6 => ?_) (fun h6 => absurd rfl h6)
          refine am_go cd_B_readAtom hc_B_readAtom 15 1 (pc' := 35) (L' := [some (.ref 13), some (.int (nI k))]) (st' := [.int 0]) rfl ?_
          exact am_iret (am_at hc_B_readAtom 16 rfl) rfl rfl ⟨rfl, rfl, rfl, hP, hF, fun _ _ z => by cases z⟩
        · simp only [if_neg h5]
          refine am_if_eq 34 (am_at hc_B_readAtom 12 rfl) (by decide) (fun h6 => absurd h6 (by decide)) (fun h6 => ?_)
          refine am_go cd_B_readAtom hc_B_readAtom 13 2 (pc' := 35) (L' := [some (.ref 13), some (.int (nI k))]) (st' := [.int 1]) rfl ?_
          refine am_iret (am_at hc_B_readAtom 16 rfl) rfl rfl ⟨rfl, rfl, rfl, hP, hF, ?_⟩
          intro c' v' z
          cases z
          refine ⟨(congrFun (am_tb_ne (by decide)) 4).trans ?_, fun s hs => am_tb_lt hs⟩
          unfold rnD
          rw [am_u_o (by decide), am_u_o (by decide), am_u_o (by decide), am_u_i]
  | true =>
    simp only [bI_t]
    refine am_if_ne 36 (am_at hc_B_readAtom 3 rfl) (by decide) (fun h1 => ?_) (fun h1 => absurd h1 (by decide))
    refine am_go cd_B_readAtom hc_B_readAtom 17 2 (pc' := 39) (L' := [some (.ref 13), some (.int (nI k))]) (st' := [.int 8, .int (nI k)]) rfl ?_
    have hp1 : p < n := (pr_se_lt hg).1
    rcases hk with ⟨hb, hk8⟩ | ⟨f, hb, hk8, hf⟩
    · subst hb
      have eA : pr_atom T n none p c = (p, none) := by unfold pr_atom; rw [if_neg (by rw [hg]; decide)]
      rw [eA]
      refine am_icmp_lt 44 (am_at hc_B_readAtom 19 rfl) (by decide) (fun h2 => absurd h2 (nI_nlt (a := k) (b := 8) (by omega) (by omega))) (fun h2 => ?_)
      refine am_go cd_B_readAtom hc_B_readAtom 20 1 (pc' := 43) (L' := [some (.ref 13), some (.int (nI k))]) (st' := [.int 0]) rfl ?_
      exact am_iret (am_at hc_B_readAtom 21 rfl) rfl rfl ⟨rfl, rfl, rfl, hp, rdF.rf, fun _ _ z => by cases z⟩
    · subst hb
      have eA : pr_atom T n (some f) p c = (match f (p + 1) c with | (q, none) => (q, none) | (q, some r) => if pr_se T n q 41 = true then (q + 1, some r) else (q, none)) := by unfold pr_atom; rw [if_neg (by rw [hg]; decide)]; rfl
      rw [eA]
      refine am_icmp_lt 44 (am_at hc_B_readAtom 19 rfl) (by decide) (fun h2 => ?_) (fun h2 => absurd (nI_lt (a := k) (b := 8) (by omega) (by omega)) h2)
      refine am_go cd_B_readAtom hc_B_readAtom 22 2 (pc' := 46) (L' := [some (.ref 13), some (.int (nI k))]) (st' := [.ref 13, .ref 13]) rfl ?_
      refine am_getf 1 2 k_r1 (am_at hc_B_readAtom 24 rfl) rfl (by decide) rfl (by decide) k_ok1 (Or.inl (tw 27 rfl rfl)) (congrArg Value.int hp) ?_
      refine am_go cd_B_readAtom hc_B_readAtom 25 2 (pc' := 51) (L' := [some (.ref 13), some (.int (nI k))]) (st' := [.int (nI p + 1), .ref 13]) rfl ?_
      rw [show nI p + 1 = nI (p + 1) from nI_1 _]
      refine am_putI 1 2 k_r1 (am_at hc_B_readAtom 27 rfl) rfl (by decide) rfl (by decide) k_ok1 (tw 27 rfl rfl) rfl rfl rfl rfl ?_
      refine am_go cd_B_readAtom hc_B_readAtom 28 4 (pc' := 58) (L' := [some (.ref 13), some (.int (nI k))]) (st' := [.int (nI k + 1), .ref 13]) rfl ?_
      rw [show nI k + 1 = nI (k + 1) from nI_1 _]
      have hgd := hB f rfl (p + 1) c hp1 hc12
      refine cW.callV (st := []) [.int (nI (k + 1))] (am_at hc_B_readAtom 32 rfl) g_B_readBid (Or.inl (tw 160 rfl rfl)) (tw 162 rfl rfl) (tp 2 rfl rfl) 1 k_r1 rfl (by decide) rfl rfl rfl rfl (Nat.le_of_ble_eq_true rfl) (hf e (am_u d 13 2 (nI (p + 1))) (p + 1) c (rd_ok_u hr (by decide)) am_u_i ((am_u_o (by decide)).trans hc) hp1 hc12) ?_
      rintro _ d2 ⟨rfl, hpl, hF, hv⟩
      show cW _ _ (e + M + 4) _ m_B_readAtom 61 [some (.ref 13), some (.int (nI k))] [.int (bI (f (p + 1) c).2.isSome)] _ _
      have hF2 : rdF (k + 1) (k + 1) d d2 := (rdF.u (by decide)).tr hF
      have hr2 := hF2.ok hr
      generalize f (p + 1) c = r at hpl hv hgd ⊢
      obtain ⟨q, oo⟩ := r
      cases oo with
      | none =>
        show cW _ _ _ _ m_B_readAtom 61 [some (.ref 13), some (.int (nI k))] [.int 0] _ _
        refine am_if_eq 73 (am_at hc_B_readAtom 33 rfl) (by decide) (fun h3 => ?_) (fun h3 => absurd rfl h3)
        refine am_go cd_B_readAtom hc_B_readAtom 38 1 (pc' := 74) (L' := [some (.ref 13), some (.int (nI k))]) (st' := [.int 0]) rfl ?_
        exact am_iret (am_at hc_B_readAtom 39 rfl) rfl rfl ⟨rfl, rfl, rfl, hpl, hF2, fun _ _ z => by cases z⟩
      | some r =>
        show cW _ _ _ _ m_B_readAtom 61 [some (.ref 13), some (.int (nI k))] [.int 1] _ _
        refine am_if_eq 73 (am_at hc_B_readAtom 33 rfl) (by decide) (fun h3 => absurd h3 (by decide)) (fun h3 => ?_)
        refine am_go cd_B_readAtom hc_B_readAtom 34 2 (pc' := 67) (L' := [some (.ref 13), some (.int (nI k))]) (st' := [.int 41, .ref 13]) rfl ?_
        have hqn : q ≤ n := hgd.1
        refine cW.callV1 70 [.int (bI (pr_se T n q 41))] (st := []) [.int 41] (am_at hc_B_readAtom 36 rfl) g_B_sees (Or.inl (tw 177 rfl rfl)) (tw 179 rfl rfl) (tp 6 rfl rfl) 1 k_r1 rfl (by decide) rfl rfl rfl rfl (Nat.le_of_ble_eq_true rfl) (c_B_sees hr2 41 (by decide) hpl (by dsimp only; omega)) rfl rfl ?_
        cases hg4 : pr_se T n q 41 with
        | false =>
          simp only [bI_f]
          refine am_if_ne 75 (am_at hc_B_readAtom 37 rfl) (by decide) (fun h5 => absurd rfl h5) (fun h5 => ?_)
          refine am_go cd_B_readAtom hc_B_readAtom 38 1 (pc' := 74) (L' := [some (.ref 13), some (.int (nI k))]) (st' := [.int 0]) rfl ?_
          refine am_iret (am_at hc_B_readAtom 39 rfl) rfl rfl ⟨rfl, rfl, ?_⟩
          rw [if_neg (by rw [hg4]; decide)]
          exact ⟨rfl, hpl, hF2, fun _ _ z => by cases z⟩
        | true =>
          simp only [bI_t]
          refine am_if_ne 75 (am_at hc_B_readAtom 37 rfl) (by decide) (fun h5 => ?_) (fun h5 => absurd h5 (by decide))
          refine am_go cd_B_readAtom hc_B_readAtom 40 2 (pc' := 77) (L' := [some (.ref 13), some (.int (nI k))]) (st' := [.ref 13, .ref 13]) rfl ?_
          refine am_getf 1 2 k_r1 (am_at hc_B_readAtom 42 rfl) rfl (by decide) rfl (by decide) k_ok1 (Or.inl (tw 27 rfl rfl)) (congrArg Value.int hpl) ?_
          refine am_go cd_B_readAtom hc_B_readAtom 43 2 (pc' := 82) (L' := [some (.ref 13), some (.int (nI k))]) (st' := [.int (nI q + 1), .ref 13]) rfl ?_
          rw [show nI q + 1 = nI (q + 1) from nI_1 _]
          refine am_putI 1 2 k_r1 (am_at hc_B_readAtom 45 rfl) rfl (by decide) rfl (by decide) k_ok1 (tw 27 rfl rfl) rfl rfl rfl rfl ?_
          refine am_go cd_B_readAtom hc_B_readAtom 46 1 (pc' := 86) (L' := [some (.ref 13), some (.int (nI k))]) (st' := [.int 1]) rfl ?_
          refine am_iret (am_at hc_B_readAtom 47 rfl) rfl rfl ⟨rfl, rfl, ?_⟩
          rw [if_pos hg4]
          refine ⟨rfl, am_u_i, hF2.tr (rdF.u (by decide)), fun c' v' z => ?_⟩
          cases z
          obtain ⟨z1, z2⟩ := hv _ _ rfl
          exact ⟨(am_u_o (by decide)).trans z1, fun s hs => (congrFun (am_u_ne 15 (by decide)) s).trans (z2 s hs)⟩
set_option maxHeartbeats 4000000 in
theorem c_B_readCapped {l : Launch} {x : am_X} {L M : Nat} {T : Nat → Nat} {n k : Nat} {B : Option (Nat → Nat → pr_R)} (hn : n ≤ 40) (hB : pr_B n B) (hA : ∀ (e : Nat) (d : am_D) (p c : Nat), rd_ok d T n → d 13 2 = nI p → d 13 4 = nI c → p ≤ n → c ≤ 12 → cM l x (e + M + 4) L m_B_readAtom [.ref 13, .int (nI k)] d (rdQ (k + 1) (k + 1) d (pr_atom T n B p c))) (e : Nat) (d : am_D) (p c : Nat) (hr : rd_ok d T n) (hp : d 13 2 = nI p) (hc : d 13 4 = nI c) (hpn : p ≤ n) (hc12 : c ≤ 12) : cM l x (e + M + 5) L m_B_readCapped [.ref 13, .int (nI k)] d (rdQ (k + 1) (k + 1) d (pr_cap T n B p c)) := by
  refine cM.go (by decide) (by simp [Value.category]) (Nat.le_of_ble_eq_true rfl) ?_
  have hgd := pr_atom_good (T := T) hB hpn hc12
  refine am_go cd_B_readCapped hc_B_readCapped 0 2 (pc' := 2) (L' := [some (.ref 13), some (.int (nI k)), none]) (st' := [.int (nI k), .ref 13]) rfl ?_
  refine cW.callV (st := []) [.int (nI k)] (am_at hc_B_readCapped 2 rfl) g_B_readAtom (Or.inl (tw 173 rfl rfl)) (tw 175 rfl rfl) (tp 5 rfl rfl) 1 k_r1 rfl (by decide) rfl rfl rfl rfl (Nat.le_of_ble_eq_true rfl) (hA e d p c hr hp hc hpn hc12) ?_
  rintro _ d2 ⟨rfl, hpl, hF, hv⟩
  show cW _ _ (e + M + 5) _ m_B_readCapped 5 [some (.ref 13), some (.int (nI k)), none] [.int (bI (pr_atom T n B p c).2.isSome)] _ _
  have hr2 := hF.ok hr
  have eC : pr_cap T n B p c = (match pr_atom T n B p c with | (q, none) => (q, none) | (q, some r) => pr_capl T n 13 q r.1 r.2) := rfl
  rw [eC]
  generalize pr_atom T n B p c = r at hpl hv hgd ⊢
  obtain ⟨q, oo⟩ := r
  cases oo with
  | none =>
    show cW _ _ _ _ m_B_readCapped 5 [some (.ref 13), some (.int (nI k)), none] [.int 0] _ _
    refine am_if_ne 10 (am_at hc_B_readCapped 3 rfl) (by decide) (fun h3 => absurd rfl h3) (fun h3 => ?_)
    refine am_go cd_B_readCapped hc_B_readCapped 4 1 (pc' := 9) (L' := [some (.ref 13), some (.int (nI k)), none]) (st' := [.int 0]) rfl ?_
    exact am_iret (am_at hc_B_readCapped 5 rfl) rfl rfl ⟨rfl, rfl, rfl, hpl, hF, fun _ _ z => by cases z⟩
  | some r =>
    show cW _ _ _ _ m_B_readCapped 5 [some (.ref 13), some (.int (nI k)), none] [.int 1] _ _
    refine am_if_ne 10 (am_at hc_B_readCapped 3 rfl) (by decide) (fun h3 => ?_) (fun h3 => absurd h3 (by decide))
    refine am_go cd_B_readCapped hc_B_readCapped 6 2 (pc' := 12) (L' := [some (.ref 13), some (.int (nI k)), some (.int 0)]) (st' := []) rfl ?_
    obtain ⟨c1, v1⟩ := r
    obtain ⟨g1, g2⟩ := hv _ _ rfl
    obtain ⟨y1, y2⟩ := hgd.2 _ _ rfl
    have loop : ∀ (F i : Nat) (d1 : am_D) (q1 c2 : Nat) (v2 : Nat → Int), i + F = 13 → rdF (k + 1) (k + 1) d d1 → d1 13 2 = nI q1 → d1 13 4 = nI c2 → q1 ≤ n → c2 ≤ 12 → tb_ok v2 → (∀ s, s < 64 → d1 15 s = zI (v2 s)) → cW l x (e + M + 5) L m_B_readCapped 12 [some (.ref 13), some (.int (nI k)), some (.int (nI i))] [] d1 (rdQ (k + 1) (k + 1) d (pr_capl T n F q1 c2 v2)) := by
      intro F
      induction F with
      | zero =>
        intro i d1 q1 c2 v2 hi hF1 hq1 hc2 hqn hc3 hv2 hv3
        unfold pr_capl
        refine am_go cd_B_readCapped hc_B_readCapped 8 2 (pc' := 15) (L' := [some (.ref 13), some (.int (nI k)), some (.int (nI i))]) (st' := [.int 12, .int (nI i)]) rfl ?_
        refine am_icmp_gt 55 (am_at hc_B_readCapped 10 rfl) (by decide) (fun h => ?_) (fun h => absurd (nI_lt (a := 12) (b := i) (by omega) (by omega)) h)
        refine am_go cd_B_readCapped hc_B_readCapped 29 1 (pc' := 56) (L' := [some (.ref 13), some (.int (nI k)), some (.int (nI i))]) (st' := [.int 0]) rfl ?_
        exact am_iret (am_at hc_B_readCapped 30 rfl) rfl rfl ⟨rfl, rfl, rfl, hq1, hF1, fun _ _ z => by cases z⟩
      | succ F ih =>
        intro i d1 q1 c2 v2 hi hF1 hq1 hc2 hqn hc3 hv2 hv3
        unfold pr_capl
        have hr3 := hF1.ok hr
        refine am_go cd_B_readCapped hc_B_readCapped 8 2 (pc' := 15) (L' := [some (.ref 13), some (.int (nI k)), some (.int (nI i))]) (st' := [.int 12, .int (nI i)]) rfl ?_
        refine am_icmp_gt 55 (am_at hc_B_readCapped 10 rfl) (by decide) (fun h => absurd h (nI_nlt (a := 12) (b := i) (by omega) (by omega))) (fun h => ?_)
        refine am_go cd_B_readCapped hc_B_readCapped 11 2 (pc' := 21) (L' := [some (.ref 13), some (.int (nI k)), some (.int (nI i))]) (st' := [.int 60, .ref 13]) rfl ?_
        refine cW.callV1 24 [.int (bI (pr_se T n q1 60))] (st := []) [.int 60] (am_at hc_B_readCapped 13 rfl) g_B_sees (Or.inl (tw 177 rfl rfl)) (tw 179 rfl rfl) (tp 6 rfl rfl) 1 k_r1 rfl (by decide) rfl rfl rfl rfl (Nat.le_of_ble_eq_true rfl) (c_B_sees hr3 60 (by decide) hq1 (by omega)) rfl rfl ?_
        cases hg : pr_se T n q1 60 with
        | false =>
          simp only [bI_f, if_true]
          refine am_if_ne 29 (am_at hc_B_readCapped 14 rfl) (by decide) (fun h4 => absurd rfl h4) (fun h4 => ?_)
          refine am_go cd_B_readCapped hc_B_readCapped 15 1 (pc' := 28) (L' := [some (.ref 13), some (.int (nI k)), some (.int (nI i))]) (st' := [.int 1]) rfl ?_
          exact am_iret (am_at hc_B_readCapped 16 rfl) rfl rfl ⟨rfl, rfl, rfl, hq1, hF1, fun _ _ z => by cases z; exact ⟨hc2, hv3⟩⟩
        | true =>
          rw [if_neg (show ¬ (true = false) by decide)]
          simp only [bI_t]
          refine am_if_ne 29 (am_at hc_B_readCapped 14 rfl) (by decide) (fun h4 => ?_) (fun h4 => absurd h4 (by decide))
          refine am_go cd_B_readCapped hc_B_readCapped 17 1 (pc' := 30) (L' := [some (.ref 13), some (.int (nI k)), some (.int (nI i))]) (st' := [.ref 13]) rfl ?_
          have hq2 : q1 < n := (pr_se_lt hg).1
          refine cW.callV1 33 [.int (if 12 ≤ c2 then 0 else 1)] (st := []) [] (am_at hc_B_readCapped 18 rfl) g_B_takeSign (Or.inl (tw 201 rfl rfl)) (tw 203 rfl rfl) (tp 12 rfl rfl) 1 k_r1 rfl (by decide) rfl rfl rfl rfl (Nat.le_of_ble_eq_true rfl) (c_B_takeSign hq1 hc2 (by omega)) rfl rfl ?_
          by_cases h2 : 12 ≤ c2
          · simp only [if_pos h2]
            refine am_if_eq 43 (am_at hc_B_readCapped 19 rfl) (by decide) (fun h5 => ?_) (fun h5 => absurd rfl h5)
            refine am_go cd_B_readCapped hc_B_readCapped 23 1 (pc' := 44) (L' := [some (.ref 13), some (.int (nI k)), some (.int (nI i))]) (st' := [.int 0]) rfl ?_
            exact am_iret (am_at hc_B_readCapped 24 rfl) rfl rfl ⟨rfl, rfl, rfl, hq1, hF1, fun _ _ z => by cases z⟩
          · simp only [if_neg h2]
            refine am_if_eq 43 (am_at hc_B_readCapped 19 rfl) (by decide) (fun h5 => absurd h5 (by decide)) (fun h5 => ?_)
            refine am_go cd_B_readCapped hc_B_readCapped 20 1 (pc' := 37) (L' := [some (.ref 13), some (.int (nI k)), some (.int (nI i))]) (st' := [.ref 13]) rfl ?_
            generalize hD : am_u (am_u d1 13 4 (nI (c2 + 1))) 13 2 (nI (q1 + 1)) = D
            have hFD : rdF (k + 1) (k + 1) d D := by rw [← hD]; exact (hF1.tr (rdF.u (by decide))).tr (rdF.u (by decide))
            have hrD := hFD.ok hr
            have hpD : D 13 2 = nI (q1 + 1) := by rw [← hD]; exact am_u_i
            have hcD : D 13 4 = nI (c2 + 1) := by rw [← hD, am_u_o (by decide)]; exact am_u_i
            have hvD : D 15 = d1 15 := by rw [← hD, am_u_ne 15 (by decide), am_u_ne 15 (by decide)]
            refine cW.callV1 40 [.int (bI (pr_dg T n (q1 + 1)))] (st := []) [] (am_at hc_B_readCapped 21 rfl) g_B_readNumber (Or.inl (tw 185 rfl rfl)) (tw 187 rfl rfl) (tp 8 rfl rfl) 1 k_r1 rfl (by decide) rfl rfl rfl rfl (Nat.le_of_ble_eq_true rfl) (c_B_readNumber hrD hpD (by omega)) rfl rfl ?_
            cases hg2 : pr_dg T n (q1 + 1) with
            | false =>
              simp only [bI_f, if_true]
              refine am_if_ne 45 (am_at hc_B_readCapped 22 rfl) (by decide) (fun h6 => absurd rfl h6) (fun h6 => ?_)
              refine am_go cd_B_readCapped hc_B_readCapped 23 1 (pc' := 44) (L' := [some (.ref 13), some (.int (nI k)), some (.int (nI i))]) (st' := [.int 0]) rfl ?_
              exact am_iret (am_at hc_B_readCapped 24 rfl) rfl rfl ⟨rfl, rfl, rfl, hpD, hFD, fun _ _ z => by cases z⟩
            | true =>
              rw [if_neg (show ¬ (true = false) by decide)]
              simp only [bI_t, if_true]
              refine am_if_ne 45 (am_at hc_B_readCapped 22 rfl) (by decide) (fun h6 => ?_) (fun h6 => absurd h6 (by decide))
              refine am_go cd_B_readCapped hc_B_readCapped 25 1 (pc' := 46) (L' := [some (.ref 13), some (.int (nI k)), some (.int (nI i))]) (st' := [.ref 13]) rfl ?_
              have hpn2 := pr_num_n T n 3 (q1 + 1) 0 hq2
              have h999 := pr_num_999 T n (q1 + 1)
              generalize pr_num T n 3 (q1 + 1) 0 = N3 at hpn2 h999 ⊢
              refine cW.callV1 49 [] (st := []) [] (am_at hc_B_readCapped 26 rfl) g_B_capValue (Or.inl (tw 205 rfl rfl)) (tw 207 rfl rfl) (tp 13 rfl rfl) 1 k_r1 rfl (by decide) rfl rfl rfl rfl (Nat.le_of_ble_eq_true rfl) (c_B_capValue v2 N3.2 (fun s hs => by rw [show rnD D N3.1 (nI N3.2) 15 = D 15 from by unfold rnD; rw [am_u_ne 15 (by decide), am_u_ne 15 (by decide)]]; rw [hvD]; exact hv3 s hs) hv2.big ((rnD_3 _ _ _).trans (nI_zI _)) (by omega) (by omega)) rfl rfl ?_
              refine am_go cd_B_readCapped hc_B_readCapped 27 2 (pc' := 12) (L' := [some (.ref 13), some (.int (nI k)), some (.int (nI i + 1))]) (st' := []) rfl ?_
              rw [nI_1]
              refine ih (i + 1) _ N3.1 (c2 + 1) (fun s => min (v2 s) N3.2) (by omega) ((hFD.tr rdF.rn).tr rdF.t15) ((congrFun (am_tb_ne (by decide)) 2).trans (rnD_2 _ _ _)) ((congrFun (am_tb_ne (by decide)) 4).trans ?_) hpn2 (by omega) (tb_min hv2) (fun s hs => am_tb_lt hs)
              unfold rnD
              rw [am_u_o (by decide), am_u_o (by decide)]; exact hcD
    exact loop 13 0 d2 q c1 v1 rfl hF hpl g1 hgd.1 y1 y2 g2
end
section
theorem c_fill {l : Launch} {x : am_X} {e L : Nat} {d : am_D} (a : Nat) (h : SH L a = (0, 64, fun _ => none)) (ha : a < 53) : cM l x e L m_J_fill [.ref a, .int 0] d (cR none (am_tb d a 64 (fun _ => zI 0))) := by
  refine am_Met.mono (c_J_fill a 0 (by rw [h]) ha (by rw [h]; decide)) ?_
  rintro r S' n' d' ⟨rfl, rfl, rfl, rfl⟩
  refine ⟨rfl, rfl, rfl, ?_⟩
  rw [h]
  funext b j; unfold am_fi am_tb am_nd
  by_cases h1 : b = a
  · by_cases h2 : j < 64
    · simp [h1, h2]; rfl
    · simp [h1, h2]
  · simp [h1]
theorem c_join {l : Launch} {x : am_X} {e L : Nat} {d : am_D} (a b : Nat) (f g : Nat → Int) (h : SH L a = (0, 64, fun _ => none)) (h2 : SH L b = (0, 64, fun _ => none)) (ha : a < 53) (hb : b < 53) (hab : a ≠ b) (hf : ∀ s, s < 64 → d a s = zI (f s)) (hg : ∀ s, s < 64 → d b s = zI (g s)) (Bf : ∀ s, s < 64 → -500000000 ≤ f s ∧ f s ≤ 500000000) (Bg : ∀ s, s < 64 → -500000000 ≤ g s ∧ g s ≤ 500000000) : cM l x (e + 1) L m_A_join [.ref a, .ref b] d (cR none (am_tb d a 64 (fun j => zI (jn f g j)))) := by
  refine am_Met.mono (c_A_join a b f g (by rw [h]) (by rw [h2]) (by rw [h]) (by rw [h2]) ha hb hab hf hg Bf Bg) ?_
  rintro r S' n' d' ⟨rfl, rfl, rfl, rfl⟩
  exact ⟨rfl, rfl, rfl, rfl⟩
theorem am_cp_tb (d : am_D) (a b k : Nat) : am_cp d a b k = am_tb d b k (d a) := by
  funext q j; unfold am_cp am_tb am_nd
  by_cases h1 : q = b
  · by_cases h2 : j < k
    · simp [h1, h2]
    · simp [h1, h2]
  · simp [h1]
theorem rdF.row {kc ks a k : Nat} {d : am_D} {F : Nat → Int32} (h : (17 + kc ≤ a ∧ a < 26) ∨ (27 + ks ≤ a ∧ a < 36)) : rdF kc ks d (am_tb d a k F) := ⟨fun b _ _ z3 z4 => am_tb_ne (fun z => by omega), fun i _ _ _ => congrFun (am_tb_ne (by omega)) i⟩
set_option maxHeartbeats 4000000 in
theorem c_B_readSum {l : Launch} {x : am_X} {L M : Nat} {T : Nat → Nat} {n k : Nat} {B : Option (Nat → Nat → pr_R)} (hk8 : k ≤ 8) (hn : n ≤ 40) (hB : pr_B n B) (hC : ∀ (e : Nat) (d : am_D) (p c : Nat), rd_ok d T n → d 13 2 = nI p → d 13 4 = nI c → p ≤ n → c ≤ 12 → cM l x (e + M + 5) L m_B_readCapped [.ref 13, .int (nI k)] d (rdQ (k + 1) (k + 1) d (pr_cap T n B p c))) (e : Nat) (d : am_D) (p c : Nat) (hr : rd_ok d T n) (hp : d 13 2 = nI p) (hc : d 13 4 = nI c) (hpn : p ≤ n) (hc12 : c ≤ 12) : cM l x (e + M + 6) L m_B_readSum [.ref 13, .int (nI k)] d (rdQ (k + 1) k d (pr_sum T n B p c)) := by
  refine cM.go (by decide) (by simp [Value.category]) (Nat.le_of_ble_eq_true rfl) ?_
  have hsh := SH_s L k (by omega)
  refine am_go cd_B_readSum hc_B_readSum 0 1 (pc' := 1) (L' := [some (.ref 13), some (.int (nI k)), none, none]) (st' := [.ref 13]) rfl ?_
  refine am_getf 1 7 k_r1 (am_at hc_B_readSum 1 rfl) rfl (by decide) rfl (by decide) k_ok1 (Or.inl (tw 34 rfl rfl)) rfl ?_
  refine am_go cd_B_readSum hc_B_readSum 2 1 (pc' := 5) (L' := [some (.ref 13), some (.int (nI k)), none, none]) (st' := [.int (nI k), .ref 26]) rfl ?_
  refine am_aaload (k) (27 + k) (am_at hc_B_readSum 3 rfl) rfl (by decide) rfl (by show k < 9; omega) (Nat.le_of_ble_eq_true rfl) (if_pos (by omega : k < 9)) ?_
  refine am_go cd_B_readSum hc_B_readSum 4 3 (pc' := 9) (L' := [some (.ref 13), some (.int (nI k)), some (.ref (27 + k)), none]) (st' := [.int 0, .ref (27 + k)]) rfl ?_
  refine cW.callS1 12 [] (st := []) [.ref (27 + k), .int 0] (am_at hc_B_readSum 7 rfl) g_J_fill (Or.inl (tw 164 rfl rfl)) (tw 131 rfl rfl) rfl rfl (Nat.le_of_ble_eq_true rfl) (c_fill (27 + k) hsh (by omega)) rfl rfl ?_
  refine am_go cd_B_readSum hc_B_readSum 8 2 (pc' := 14) (L' := [some (.ref 13), some (.int (nI k)), some (.ref (27 + k)), some (.int 0)]) (st' := []) rfl ?_
  have hFd : rdF (k + 1) k d (am_tb d (27 + k) 64 (fun _ => zI 0)) := rdF.row (by omega)
  have loop : ∀ (F i : Nat) (d1 : am_D) (q1 c2 : Nat) (acc : Nat → Int), i + F = 13 → rdF (k + 1) k d d1 → d1 13 2 = nI q1 → d1 13 4 = nI c2 → q1 ≤ n → c2 ≤ 12 → tb_ok acc → (∀ s, s < 64 → d1 (27 + k) s = zI (acc s)) → cW l x (e + M + 6) L m_B_readSum 14 [some (.ref 13), some (.int (nI k)), some (.ref (27 + k)), some (.int (nI i))] [] d1 (rdQ (k + 1) k d (pr_suml T n B F q1 c2 acc)) := by
    intro F
    induction F with
    | zero =>
      intro i d1 q1 c2 acc hi hF1 hq1 hc2 hqn hc3 hv2 hv3
      unfold pr_suml
      refine am_go cd_B_readSum hc_B_readSum 10 2 (pc' := 17) (L' := [some (.ref 13), some (.int (nI k)), some (.ref (27 + k)), some (.int (nI i))]) (st' := [.int 12, .int (nI i)]) rfl ?_
      refine am_icmp_gt 76 (am_at hc_B_readSum 12 rfl) (by decide) (fun h => ?_) (fun h => absurd (nI_lt (a := 12) (b := i) (by omega) (by omega)) h)
      refine am_go cd_B_readSum hc_B_readSum 43 1 (pc' := 77) (L' := [some (.ref 13), some (.int (nI k)), some (.ref (27 + k)), some (.int (nI i))]) (st' := [.int 0]) rfl ?_
      exact am_iret (am_at hc_B_readSum 44 rfl) rfl rfl ⟨rfl, rfl, rfl, hq1, hF1, fun _ _ z => by cases z⟩
    | succ F ih =>
      intro i d1 q1 c2 acc hi hF1 hq1 hc2 hqn hc3 hv2 hv3
      unfold pr_suml
      have hr3 := hF1.ok hr
      have hgd : pr_good n (pr_cap T n B q1 c2) := pr_cap_good hB hqn hc3
      refine am_go cd_B_readSum hc_B_readSum 10 2 (pc' := 17) (L' := [some (.ref 13), some (.int (nI k)), some (.ref (27 + k)), some (.int (nI i))]) (st' := [.int 12, .int (nI i)]) rfl ?_
      refine am_icmp_gt 76 (am_at hc_B_readSum 12 rfl) (by decide) (fun h => absurd h (nI_nlt (a := 12) (b := i) (by omega) (by omega))) (fun h => ?_)
      refine am_go cd_B_readSum hc_B_readSum 13 2 (pc' := 22) (L' := [some (.ref 13), some (.int (nI k)), some (.ref (27 + k)), some (.int (nI i))]) (st' := [.int (nI k), .ref 13]) rfl ?_
      refine cW.callV (st := []) [.int (nI k)] (am_at hc_B_readSum 15 rfl) g_B_readCapped (Or.inl (tw 169 rfl rfl)) (tw 171 rfl rfl) (tp 4 rfl rfl) 1 k_r1 rfl (by decide) rfl rfl rfl rfl (Nat.le_of_ble_eq_true rfl) (hC e d1 q1 c2 hr3 hq1 hc2 hqn hc3) ?_
      rintro _ d2 ⟨rfl, hpl, hF, hv⟩
      show cW _ _ (e + M + 6) _ m_B_readSum 25 [some (.ref 13), some (.int (nI k)), some (.ref (27 + k)), some (.int (nI i))] [.int (bI (pr_cap T n B q1 c2).2.isSome)] _ _
      have hF2 : rdF (k + 1) k d d2 := hF1.tr (hF.wd (by omega) (by omega))
      have hr2 := hF2.ok hr
      have hrow : d2 (27 + k) = d1 (27 + k) := hF.1 _ (by omega) (by omega) (by omega) (by omega)
      generalize pr_cap T n B q1 c2 = r at hpl hv hgd ⊢
      obtain ⟨q, oo⟩ := r
      cases oo with
      | none =>
        show cW _ _ _ _ m_B_readSum 25 [some (.ref 13), some (.int (nI k)), some (.ref (27 + k)), some (.int (nI i))] [.int 0] _ _
        refine am_if_ne 30 (am_at hc_B_readSum 16 rfl) (by decide) (fun h3 => absurd rfl h3) (fun h3 => ?_)
        refine am_go cd_B_readSum hc_B_readSum 17 1 (pc' := 29) (L' := [some (.ref 13), some (.int (nI k)), some (.ref (27 + k)), some (.int (nI i))]) (st' := [.int 0]) rfl ?_
        exact am_iret (am_at hc_B_readSum 18 rfl) rfl rfl ⟨rfl, rfl, rfl, hpl, hF2, fun _ _ z => by cases z⟩
      | some r =>
        show cW _ _ _ _ m_B_readSum 25 [some (.ref 13), some (.int (nI k)), some (.ref (27 + k)), some (.int (nI i))] [.int 1] _ _
        refine am_if_ne 30 (am_at hc_B_readSum 16 rfl) (by decide) (fun h3 => ?_) (fun h3 => absurd h3 (by decide))
        refine am_go cd_B_readSum hc_B_readSum 19 2 (pc' := 32) (L' := [some (.ref 13), some (.int (nI k)), some (.ref (27 + k)), some (.int (nI i))]) (st' := [.ref 13, .ref (27 + k)]) rfl ?_
        obtain ⟨c1, v1⟩ := r
        obtain ⟨g1, g2⟩ := hv _ _ rfl
        obtain ⟨y1, y2⟩ := hgd.2 _ _ rfl
        have hqn2 : q ≤ n := hgd.1
        refine am_getf 1 5 k_r1 (am_at hc_B_readSum 21 rfl) rfl (by decide) rfl (by decide) k_ok1 (Or.inl (tw 31 rfl rfl)) rfl ?_
        refine cW.callS1 38 [] (st := []) [.ref (27 + k), .ref 15] (am_at hc_B_readSum 22 rfl) g_A_join (Or.inr ⟨_, tn 212 rfl rfl⟩) (tw 213 rfl rfl) rfl rfl (Nat.le_of_ble_eq_true rfl) (c_join (27 + k) 15 acc v1 hsh rfl (by omega) (by decide) (by omega) (fun s hs => by rw [hrow]; exact hv3 s hs) g2 hv2.big y2.big) rfl rfl ?_
        have hF3 : rdF (k + 1) k d (am_tb d2 (27 + k) 64 (fun j => zI (jn acc v1 j))) := hF2.tr (rdF.row (by omega))
        have hrw : ∀ s, s < 64 → am_tb d2 (27 + k) 64 (fun j => zI (jn acc v1 j)) (27 + k) s = zI ((jn acc v1) s) := fun s hs => am_tb_lt hs
        have ho : ∀ b, b ≠ 27 + k → am_tb d2 (27 + k) 64 (fun j => zI (jn acc v1 j)) b = d2 b := fun b hb => am_tb_ne hb
        generalize am_tb d2 (27 + k) 64 (fun j => zI (jn acc v1 j)) = D at hF3 hrw ho ⊢
        have hrD := hF3.ok hr
        have hpD : D 13 2 = nI q := (congrFun (ho 13 (by omega)) 2).trans hpl
        have hcD : D 13 4 = nI c1 := (congrFun (ho 13 (by omega)) 4).trans g1
        refine am_go cd_B_readSum hc_B_readSum 23 2 (pc' := 41) (L' := [some (.ref 13), some (.int (nI k)), some (.ref (27 + k)), some (.int (nI i))]) (st' := [.int 43, .ref 13]) rfl ?_
        refine cW.callV1 44 [.int (bI (pr_se T n q 43))] (st := []) [.int 43] (am_at hc_B_readSum 25 rfl) g_B_sees (Or.inl (tw 177 rfl rfl)) (tw 179 rfl rfl) (tp 6 rfl rfl) 1 k_r1 rfl (by decide) rfl rfl rfl rfl (Nat.le_of_ble_eq_true rfl) (c_B_sees hrD 43 (by decide) hpD (by omega)) rfl rfl ?_
        cases hg : pr_se T n q 43 with
        | false =>
          simp only [bI_f]
          refine am_if_ne 61 (am_at hc_B_readSum 26 rfl) (by decide) (fun h4 => absurd rfl h4) (fun h4 => ?_)
          refine am_go cd_B_readSum hc_B_readSum 27 3 (pc' := 50) (L' := [some (.ref 13), some (.int (nI k)), some (.ref (27 + k)), some (.int (nI i))]) (st' := [.ref 13, .int 0, .ref (27 + k)]) rfl ?_
          refine am_getf 1 5 k_r1 (am_at hc_B_readSum 30 rfl) rfl (by decide) rfl (by decide) k_ok1 (Or.inl (tw 31 rfl rfl)) rfl ?_
          refine am_go cd_B_readSum hc_B_readSum 31 2 (pc' := 56) (L' := [some (.ref 13), some (.int (nI k)), some (.ref (27 + k)), some (.int (nI i))]) (st' := [.int 64, .int 0, .ref 15, .int 0, .ref (27 + k)]) rfl ?_
          refine am_copy 64 (am_at hc_B_readSum 33 rfl) (tw 218 rfl rfl) (tw 220 rfl rfl) (tw 219 rfl rfl) (tw 7 rfl rfl) (by rw [hsh]) rfl (by omega) (by decide) rfl (by rw [hsh]; decide) (Nat.le_of_ble_eq_true rfl) (by decide) (Nat.le_of_ble_eq_true rfl) ?_
          refine am_go cd_B_readSum hc_B_readSum 34 1 (pc' := 60) (L' := [some (.ref 13), some (.int (nI k)), some (.ref (27 + k)), some (.int (nI i))]) (st' := [.int 1]) rfl ?_
          refine am_iret (am_at hc_B_readSum 35 rfl) rfl rfl ⟨rfl, rfl, ?_⟩
          rw [if_pos hg, am_cp_tb]
          refine ⟨rfl, (congrFun (am_tb_ne (by decide)) 2).trans hpD, hF3.tr rdF.t15, fun c' v' z => ?_⟩
          cases z
          exact ⟨(congrFun (am_tb_ne (by decide)) 4).trans hcD, fun s hs => (am_tb_lt hs).trans (hrw s hs)⟩
        | true =>
          simp only [bI_t]
          rw [if_neg (by rw [hg]; decide)]
          refine am_if_ne 61 (am_at hc_B_readSum 26 rfl) (by decide) (fun h4 => ?_) (fun h4 => absurd h4 (by decide))
          refine am_go cd_B_readSum hc_B_readSum 36 1 (pc' := 62) (L' := [some (.ref 13), some (.int (nI k)), some (.ref (27 + k)), some (.int (nI i))]) (st' := [.ref 13]) rfl ?_
          have hq2 : q < n := (pr_se_lt hg).1
          refine cW.callV1 65 [.int (if 12 ≤ c1 then 0 else 1)] (st := []) [] (am_at hc_B_readSum 37 rfl) g_B_takeSign (Or.inl (tw 201 rfl rfl)) (tw 203 rfl rfl) (tp 12 rfl rfl) 1 k_r1 rfl (by decide) rfl rfl rfl rfl (Nat.le_of_ble_eq_true rfl) (c_B_takeSign hpD hcD (by omega)) rfl rfl ?_
          by_cases h2 : 12 ≤ c1
          · simp only [if_pos h2]
            refine am_if_ne 70 (am_at hc_B_readSum 38 rfl) (by decide) (fun h5 => absurd rfl h5) (fun h5 => ?_)
            refine am_go cd_B_readSum hc_B_readSum 39 1 (pc' := 69) (L' := [some (.ref 13), some (.int (nI k)), some (.ref (27 + k)), some (.int (nI i))]) (st' := [.int 0]) rfl ?_
            exact am_iret (am_at hc_B_readSum 40 rfl) rfl rfl ⟨rfl, rfl, rfl, hpD, hF3, fun _ _ z => by cases z⟩
          · simp only [if_neg h2]
            refine am_if_ne 70 (am_at hc_B_readSum 38 rfl) (by decide) (fun h5 => ?_) (fun h5 => absurd h5 (by decide))
            refine am_go cd_B_readSum hc_B_readSum 41 2 (pc' := 14) (L' := [some (.ref 13), some (.int (nI k)), some (.ref (27 + k)), some (.int (nI i + 1))]) (st' := []) rfl ?_
            rw [nI_1]
            exact ih (i + 1) _ (q + 1) (c1 + 1) (jn acc v1) (by omega) ((hF3.tr (rdF.u (by decide))).tr (rdF.u (by decide))) am_u_i ((am_u_o (by decide)).trans am_u_i) hq2 (by omega) (tb_jn hv2 y2) (fun s hs => by rw [am_u_ne _ (by omega), am_u_ne _ (by omega)]; exact hrw s hs)
  exact loop 13 0 _ p c (fun _ => 0) rfl hFd ((congrFun (am_tb_ne (by omega)) 2).trans hp) ((congrFun (am_tb_ne (by omega)) 4).trans hc) hpn hc12 tb_0 (fun s hs => am_tb_lt hs)
set_option maxHeartbeats 4000000 in
theorem c_B_readBid {l : Launch} {x : am_X} {L M : Nat} {T : Nat → Nat} {n k : Nat} {B : Option (Nat → Nat → pr_R)} (hk8 : k ≤ 8) (hn : n ≤ 40) (hB : pr_B n B) (hC : ∀ (e : Nat) (d : am_D) (p c : Nat), rd_ok d T n → d 13 2 = nI p → d 13 4 = nI c → p ≤ n → c ≤ 12 → cM l x (e + M + 6) L m_B_readSum [.ref 13, .int (nI k)] d (rdQ (k + 1) k d (pr_sum T n B p c))) (e : Nat) (d : am_D) (p c : Nat) (hr : rd_ok d T n) (hp : d 13 2 = nI p) (hc : d 13 4 = nI c) (hpn : p ≤ n) (hc12 : c ≤ 12) : cM l x (e + M + 7) L m_B_readBid [.ref 13, .int (nI k)] d (rdQ k k d (pr_bid T n B p c)) := by
  refine cM.go (by decide) (by simp [Value.category]) (Nat.le_of_ble_eq_true rfl) ?_
  have hsh := SH_c L k (by omega)
  refine am_go cd_B_readBid hc_B_readBid 0 1 (pc' := 1) (L' := [some (.ref 13), some (.int (nI k)), none, none]) (st' := [.ref 13]) rfl ?_
  refine am_getf 1 6 k_r1 (am_at hc_B_readBid 1 rfl) rfl (by decide) rfl (by decide) k_ok1 (Or.inl (tw 33 rfl rfl)) rfl ?_
  refine am_go cd_B_readBid hc_B_readBid 2 1 (pc' := 5) (L' := [some (.ref 13), some (.int (nI k)), none, none]) (st' := [.int (nI k), .ref 16]) rfl ?_
  refine am_aaload (k) (17 + k) (am_at hc_B_readBid 3 rfl) rfl (by decide) rfl (by show k < 9; omega) (Nat.le_of_ble_eq_true rfl) (if_pos (by omega : k < 9)) ?_
  refine am_go cd_B_readBid hc_B_readBid 4 3 (pc' := 9) (L' := [some (.ref 13), some (.int (nI k)), some (.ref (17 + k)), none]) (st' := [.int 0, .ref (17 + k)]) rfl ?_
  refine cW.callS1 12 [] (st := []) [.ref (17 + k), .int 0] (am_at hc_B_readBid 7 rfl) g_J_fill (Or.inl (tw 164 rfl rfl)) (tw 131 rfl rfl) rfl rfl (Nat.le_of_ble_eq_true rfl) (c_fill (17 + k) hsh (by omega)) rfl rfl ?_
  refine am_go cd_B_readBid hc_B_readBid 8 2 (pc' := 14) (L' := [some (.ref 13), some (.int (nI k)), some (.ref (17 + k)), some (.int 0)]) (st' := []) rfl ?_
  have hFd : rdF k k d (am_tb d (17 + k) 64 (fun _ => zI 0)) := rdF.row (by omega)
  have loop : ∀ (F i : Nat) (d1 : am_D) (q1 c2 : Nat) (acc : Nat → Int), i + F = 13 → rdF k k d d1 → d1 13 2 = nI q1 → d1 13 4 = nI c2 → q1 ≤ n → c2 ≤ 12 → tb_ok acc → (∀ s, s < 64 → d1 (17 + k) s = zI (acc s)) → cW l x (e + M + 7) L m_B_readBid 14 [some (.ref 13), some (.int (nI k)), some (.ref (17 + k)), some (.int (nI i))] [] d1 (rdQ k k d (pr_bidl T n B F q1 c2 acc)) := by
    intro F
    induction F with
    | zero =>
      intro i d1 q1 c2 acc hi hF1 hq1 hc2 hqn hc3 hv2 hv3
      unfold pr_bidl
      refine am_go cd_B_readBid hc_B_readBid 10 2 (pc' := 17) (L' := [some (.ref 13), some (.int (nI k)), some (.ref (17 + k)), some (.int (nI i))]) (st' := [.int 12, .int (nI i)]) rfl ?_
      refine am_icmp_gt 73 (am_at hc_B_readBid 12 rfl) (by decide) (fun h => ?_) (fun h => absurd (nI_lt (a := 12) (b := i) (by omega) (by omega)) h)
      refine am_go cd_B_readBid hc_B_readBid 42 1 (pc' := 74) (L' := [some (.ref 13), some (.int (nI k)), some (.ref (17 + k)), some (.int (nI i))]) (st' := [.int 0]) rfl ?_
      exact am_iret (am_at hc_B_readBid 43 rfl) rfl rfl ⟨rfl, rfl, rfl, hq1, hF1, fun _ _ z => by cases z⟩
    | succ F ih =>
      intro i d1 q1 c2 acc hi hF1 hq1 hc2 hqn hc3 hv2 hv3
      unfold pr_bidl
      have hr3 := hF1.ok hr
      have hgd : pr_good n (pr_sum T n B q1 c2) := pr_suml_good hB 13 q1 c2 _ hqn hc3 tb_0
      refine am_go cd_B_readBid hc_B_readBid 10 2 (pc' := 17) (L' := [some (.ref 13), some (.int (nI k)), some (.ref (17 + k)), some (.int (nI i))]) (st' := [.int 12, .int (nI i)]) rfl ?_
      refine am_icmp_gt 73 (am_at hc_B_readBid 12 rfl) (by decide) (fun h => absurd h (nI_nlt (a := 12) (b := i) (by omega) (by omega))) (fun h => ?_)
      refine am_go cd_B_readBid hc_B_readBid 13 2 (pc' := 22) (L' := [some (.ref 13), some (.int (nI k)), some (.ref (17 + k)), some (.int (nI i))]) (st' := [.int (nI k), .ref 13]) rfl ?_
      refine cW.callV (st := []) [.int (nI k)] (am_at hc_B_readBid 15 rfl) g_B_readSum (Or.inl (tw 165 rfl rfl)) (tw 167 rfl rfl) (tp 3 rfl rfl) 1 k_r1 rfl (by decide) rfl rfl rfl rfl (Nat.le_of_ble_eq_true rfl) (hC e d1 q1 c2 hr3 hq1 hc2 hqn hc3) ?_
      rintro _ d2 ⟨rfl, hpl, hF, hv⟩
      show cW _ _ (e + M + 7) _ m_B_readBid 25 [some (.ref 13), some (.int (nI k)), some (.ref (17 + k)), some (.int (nI i))] [.int (bI (pr_sum T n B q1 c2).2.isSome)] _ _
      have hF2 : rdF k k d d2 := hF1.tr (hF.wd (by omega) (by omega))
      have hr2 := hF2.ok hr
      have hrow : d2 (17 + k) = d1 (17 + k) := hF.1 _ (by omega) (by omega) (by omega) (by omega)
      generalize pr_sum T n B q1 c2 = r at hpl hv hgd ⊢
      obtain ⟨q, oo⟩ := r
      cases oo with
      | none =>
        show cW _ _ _ _ m_B_readBid 25 [some (.ref 13), some (.int (nI k)), some (.ref (17 + k)), some (.int (nI i))] [.int 0] _ _
        refine am_if_ne 30 (am_at hc_B_readBid 16 rfl) (by decide) (fun h3 => absurd rfl h3) (fun h3 => ?_)
        refine am_go cd_B_readBid hc_B_readBid 17 1 (pc' := 29) (L' := [some (.ref 13), some (.int (nI k)), some (.ref (17 + k)), some (.int (nI i))]) (st' := [.int 0]) rfl ?_
        exact am_iret (am_at hc_B_readBid 18 rfl) rfl rfl ⟨rfl, rfl, rfl, hpl, hF2, fun _ _ z => by cases z⟩
      | some r =>
        show cW _ _ _ _ m_B_readBid 25 [some (.ref 13), some (.int (nI k)), some (.ref (17 + k)), some (.int (nI i))] [.int 1] _ _
        refine am_if_ne 30 (am_at hc_B_readBid 16 rfl) (by decide) (fun h3 => ?_) (fun h3 => absurd h3 (by decide))
        refine am_go cd_B_readBid hc_B_readBid 19 2 (pc' := 32) (L' := [some (.ref 13), some (.int (nI k)), some (.ref (17 + k)), some (.int (nI i))]) (st' := [.ref (17 + k), .ref 13]) rfl ?_
        obtain ⟨c1, v1⟩ := r
        obtain ⟨g1, g2⟩ := hv _ _ rfl
        obtain ⟨y1, y2⟩ := hgd.2 _ _ rfl
        have hqn2 : q ≤ n := hgd.1
        refine cW.callV1 35 [] (st := []) [.ref (17 + k)] (am_at hc_B_readBid 21 rfl) g_B_keepGreater (Or.inl (tw 221 rfl rfl)) (tw 223 rfl rfl) (tp 14 rfl rfl) 1 k_r1 rfl (by decide) rfl rfl rfl rfl (Nat.le_of_ble_eq_true rfl) (c_B_keepGreater (17 + k) acc v1 (by rw [hsh]) (by rw [hsh]) (by omega) (by omega) (fun s hs => by rw [hrow]; exact hv3 s hs) g2 hv2.big y2.big) rfl rfl ?_
        have hF3 : rdF k k d (am_tb d2 (17 + k) 64 (fun j => zI (max (acc j) (v1 j)))) := hF2.tr (rdF.row (by omega))
        have hrw : ∀ s, s < 64 → am_tb d2 (17 + k) 64 (fun j => zI (max (acc j) (v1 j))) (17 + k) s = zI ((fun s => max (acc s) (v1 s)) s) := fun s hs => am_tb_lt hs
        have ho : ∀ b, b ≠ 17 + k → am_tb d2 (17 + k) 64 (fun j => zI (max (acc j) (v1 j))) b = d2 b := fun b hb => am_tb_ne hb
        generalize am_tb d2 (17 + k) 64 (fun j => zI (max (acc j) (v1 j))) = D at hF3 hrw ho ⊢
        have hrD := hF3.ok hr
        have hpD : D 13 2 = nI q := (congrFun (ho 13 (by omega)) 2).trans hpl
        have hcD : D 13 4 = nI c1 := (congrFun (ho 13 (by omega)) 4).trans g1
        refine am_go cd_B_readBid hc_B_readBid 22 2 (pc' := 38) (L' := [some (.ref 13), some (.int (nI k)), some (.ref (17 + k)), some (.int (nI i))]) (st' := [.int 94, .ref 13]) rfl ?_
        refine cW.callV1 41 [.int (bI (pr_se T n q 94))] (st := []) [.int 94] (am_at hc_B_readBid 24 rfl) g_B_sees (Or.inl (tw 177 rfl rfl)) (tw 179 rfl rfl) (tp 6 rfl rfl) 1 k_r1 rfl (by decide) rfl rfl rfl rfl (Nat.le_of_ble_eq_true rfl) (c_B_sees hrD 94 (by decide) hpD (by omega)) rfl rfl ?_
        cases hg : pr_se T n q 94 with
        | false =>
          simp only [bI_f]
          refine am_if_ne 58 (am_at hc_B_readBid 25 rfl) (by decide) (fun h4 => absurd rfl h4) (fun h4 => ?_)
          refine am_go cd_B_readBid hc_B_readBid 26 3 (pc' := 47) (L' := [some (.ref 13), some (.int (nI k)), some (.ref (17 + k)), some (.int (nI i))]) (st' := [.ref 13, .int 0, .ref (17 + k)]) rfl ?_
          refine am_getf 1 5 k_r1 (am_at hc_B_readBid 29 rfl) rfl (by decide) rfl (by decide) k_ok1 (Or.inl (tw 31 rfl rfl)) rfl ?_
          refine am_go cd_B_readBid hc_B_readBid 30 2 (pc' := 53) (L' := [some (.ref 13), some (.int (nI k)), some (.ref (17 + k)), some (.int (nI i))]) (st' := [.int 64, .int 0, .ref 15, .int 0, .ref (17 + k)]) rfl ?_
          refine am_copy 64 (am_at hc_B_readBid 32 rfl) (tw 218 rfl rfl) (tw 220 rfl rfl) (tw 219 rfl rfl) (tw 7 rfl rfl) (by rw [hsh]) rfl (by omega) (by decide) rfl (by rw [hsh]; decide) (Nat.le_of_ble_eq_true rfl) (by decide) (Nat.le_of_ble_eq_true rfl) ?_
          refine am_go cd_B_readBid hc_B_readBid 33 1 (pc' := 57) (L' := [some (.ref 13), some (.int (nI k)), some (.ref (17 + k)), some (.int (nI i))]) (st' := [.int 1]) rfl ?_
          refine am_iret (am_at hc_B_readBid 34 rfl) rfl rfl ⟨rfl, rfl, ?_⟩
          rw [if_pos hg, am_cp_tb]
          refine ⟨rfl, (congrFun (am_tb_ne (by decide)) 2).trans hpD, hF3.tr rdF.t15, fun c' v' z => ?_⟩
          cases z
          exact ⟨(congrFun (am_tb_ne (by decide)) 4).trans hcD, fun s hs => (am_tb_lt hs).trans (hrw s hs)⟩
        | true =>
          simp only [bI_t]
          rw [if_neg (by rw [hg]; decide)]
          refine am_if_ne 58 (am_at hc_B_readBid 25 rfl) (by decide) (fun h4 => ?_) (fun h4 => absurd h4 (by decide))
          refine am_go cd_B_readBid hc_B_readBid 35 1 (pc' := 59) (L' := [some (.ref 13), some (.int (nI k)), some (.ref (17 + k)), some (.int (nI i))]) (st' := [.ref 13]) rfl ?_
          have hq2 : q < n := (pr_se_lt hg).1
          refine cW.callV1 62 [.int (if 12 ≤ c1 then 0 else 1)] (st := []) [] (am_at hc_B_readBid 36 rfl) g_B_takeSign (Or.inl (tw 201 rfl rfl)) (tw 203 rfl rfl) (tp 12 rfl rfl) 1 k_r1 rfl (by decide) rfl rfl rfl rfl (Nat.le_of_ble_eq_true rfl) (c_B_takeSign hpD hcD (by omega)) rfl rfl ?_
          by_cases h2 : 12 ≤ c1
          · simp only [if_pos h2]
            refine am_if_ne 67 (am_at hc_B_readBid 37 rfl) (by decide) (fun h5 => absurd rfl h5) (fun h5 => ?_)
            refine am_go cd_B_readBid hc_B_readBid 38 1 (pc' := 66) (L' := [some (.ref 13), some (.int (nI k)), some (.ref (17 + k)), some (.int (nI i))]) (st' := [.int 0]) rfl ?_
            exact am_iret (am_at hc_B_readBid 39 rfl) rfl rfl ⟨rfl, rfl, rfl, hpD, hF3, fun _ _ z => by cases z⟩
          · simp only [if_neg h2]
            refine am_if_ne 67 (am_at hc_B_readBid 37 rfl) (by decide) (fun h5 => ?_) (fun h5 => absurd h5 (by decide))
            refine am_go cd_B_readBid hc_B_readBid 40 2 (pc' := 14) (L' := [some (.ref 13), some (.int (nI k)), some (.ref (17 + k)), some (.int (nI i + 1))]) (st' := []) rfl ?_
            rw [nI_1]
            exact ih (i + 1) _ (q + 1) (c1 + 1) (fun s => max (acc s) (v1 s)) (by omega) ((hF3.tr (rdF.u (by decide))).tr (rdF.u (by decide))) am_u_i ((am_u_o (by decide)).trans am_u_i) hq2 (by omega) (tb_max hv2 y2) (fun s hs => by rw [am_u_ne _ (by omega), am_u_ne _ (by omega)]; exact hrw s hs)
  exact loop 13 0 _ p c (fun _ => 0) rfl hFd ((congrFun (am_tb_ne (by omega)) 2).trans hp) ((congrFun (am_tb_ne (by omega)) 4).trans hc) hpn hc12 tb_0 (fun s hs => am_tb_lt hs)
/-- readBid at depth k, by the brackets that may still come -/
theorem c_B_readBid_all {l : Launch} {x : am_X} {L : Nat} {T : Nat → Nat} {n : Nat} (hn : n ≤ 40) : ∀ (j k : Nat), k + j = 8 → ∀ (e : Nat) (d : am_D) (p c : Nat), rd_ok d T n → d 13 2 = nI p → d 13 4 = nI c → p ≤ n → c ≤ 12 → cM l x (e + 4 * j + 7) L m_B_readBid [.ref 13, .int (nI k)] d (rdQ k k d (pr_bidk T n j p c))
  | 0, k, hk, e, d, p, c, hr, hp, hc, hpn, hc12 => by
    have hB : pr_B n none := fun f z => by cases z
    have hA : ∀ (e : Nat) (d : am_D) (p c : Nat), rd_ok d T n → d 13 2 = nI p → d 13 4 = nI c → p ≤ n → c ≤ 12 → cM l x (e + 0 + 4) L m_B_readAtom [.ref 13, .int (nI k)] d (rdQ (k + 1) (k + 1) d (pr_atom T n none p c)) := fun e d p c => c_B_readAtom (M := 0) hn hB (Or.inl ⟨rfl, by omega⟩) e d p c
    have hCp : ∀ (e : Nat) (d : am_D) (p c : Nat), rd_ok d T n → d 13 2 = nI p → d 13 4 = nI c → p ≤ n → c ≤ 12 → cM l x (e + 0 + 5) L m_B_readCapped [.ref 13, .int (nI k)] d (rdQ (k + 1) (k + 1) d (pr_cap T n none p c)) := fun e d p c => c_B_readCapped (M := 0) hn hB hA e d p c
    have hSm : ∀ (e : Nat) (d : am_D) (p c : Nat), rd_ok d T n → d 13 2 = nI p → d 13 4 = nI c → p ≤ n → c ≤ 12 → cM l x (e + 0 + 6) L m_B_readSum [.ref 13, .int (nI k)] d (rdQ (k + 1) k d (pr_sum T n none p c)) := fun e d p c => c_B_readSum (M := 0) (by omega) hn hB hCp e d p c
    exact c_B_readBid (M := 0) (by omega) hn hB hSm e d p c hr hp hc hpn hc12
  | j + 1, k, hk, e, d, p, c, hr, hp, hc, hpn, hc12 => by
    have hB : pr_B n (some (pr_bidk T n j)) := fun f z => by cases z; exact fun p c hp hc => pr_bidk_good j p c hp hc
    have hin : ∀ (e : Nat) (d : am_D) (p c : Nat), rd_ok d T n → d 13 2 = nI p → d 13 4 = nI c → p ≤ n → c ≤ 12 → cM l x (e + (4 * j + 4) + 3) L m_B_readBid [.ref 13, .int (nI (k + 1))] d (rdQ (k + 1) (k + 1) d (pr_bidk T n j p c)) := fun e d p c h1 h2 h3 h4 h5 => c_B_readBid_all hn j (k + 1) (by omega) e d p c h1 h2 h3 h4 h5
    have hA : ∀ (e : Nat) (d : am_D) (p c : Nat), rd_ok d T n → d 13 2 = nI p → d 13 4 = nI c → p ≤ n → c ≤ 12 → cM l x (e + (4 * j + 4) + 4) L m_B_readAtom [.ref 13, .int (nI k)] d (rdQ (k + 1) (k + 1) d (pr_atom T n (some (pr_bidk T n j)) p c)) := fun e d p c => c_B_readAtom (M := 4 * j + 4) hn hB (Or.inr ⟨_, rfl, by omega, hin⟩) e d p c
    have hCp : ∀ (e : Nat) (d : am_D) (p c : Nat), rd_ok d T n → d 13 2 = nI p → d 13 4 = nI c → p ≤ n → c ≤ 12 → cM l x (e + (4 * j + 4) + 5) L m_B_readCapped [.ref 13, .int (nI k)] d (rdQ (k + 1) (k + 1) d (pr_cap T n (some (pr_bidk T n j)) p c)) := fun e d p c => c_B_readCapped (M := 4 * j + 4) hn hB hA e d p c
    have hSm : ∀ (e : Nat) (d : am_D) (p c : Nat), rd_ok d T n → d 13 2 = nI p → d 13 4 = nI c → p ≤ n → c ≤ 12 → cM l x (e + (4 * j + 4) + 6) L m_B_readSum [.ref 13, .int (nI k)] d (rdQ (k + 1) k d (pr_sum T n (some (pr_bidk T n j)) p c)) := fun e d p c => c_B_readSum (M := 4 * j + 4) (by omega) hn hB hCp e d p c
    exact c_B_readBid (M := 4 * j + 4) (by omega) hn hB hSm e d p c hr hp hc hpn hc12
/-- the whole reading: a fault's place, or what was read -/
def pr_read (T : Nat → Nat) (n : Nat) : Nat ⊕ (Nat × (Nat → Int)) := match pr_bidk T n 8 0 0 with
  | (q, none) => .inl q
  | (q, some r) => if q = n then .inr r else .inl q
def pr_ans (r : Nat ⊕ (Nat × (Nat → Int))) : Int32 := match r with
  | .inl q => nI q
  | .inr _ => -1
set_option maxHeartbeats 4000000 in
theorem c_B_read {l : Launch} {x : am_X} {e L : Nat} {d : am_D} {T : Nat → Nat} {n : Nat} (hr : rd_ok d T n) : cM l x (e + 40) L m_B_read [.ref 13] d (fun ret d' => ret = some (.int (pr_ans (pr_read T n))) ∧ rdF 0 0 d d' ∧ ∀ c v, pr_read T n = .inr (c, v) → d' 13 4 = nI c ∧ ∀ s, s < 64 → d' 15 s = zI (v s)) := by
  refine cM.go (by decide) (by simp [Value.category]) (Nat.le_of_ble_eq_true rfl) ?_
  refine am_go cd_B_read hc_B_read 0 2 (pc' := 2) (L' := [some (.ref 13)]) (st' := [.int 0, .ref 13]) rfl ?_
  refine am_putI 1 2 k_r1 (am_at hc_B_read 2 rfl) rfl (by decide) rfl (by decide) k_ok1 (tw 27 rfl rfl) rfl rfl rfl rfl ?_
  refine am_go cd_B_read hc_B_read 3 2 (pc' := 7) (L' := [some (.ref 13)]) (st' := [.int 0, .ref 13]) rfl ?_
  refine am_putI 1 4 k_r1 (am_at hc_B_read 5 rfl) rfl (by decide) rfl (by decide) k_ok1 (tw 29 rfl rfl) rfl rfl rfl rfl ?_
  refine am_go cd_B_read hc_B_read 6 2 (pc' := 12) (L' := [some (.ref 13)]) (st' := [.int 0, .ref 13]) rfl ?_
  generalize hD : am_u (am_u d 13 2 0) 13 4 0 = D
  have hFD : rdF 0 0 d D := by rw [← hD]; exact (rdF.u (by decide)).tr (rdF.u (by decide))
  have hrD := hFD.ok hr
  have hn := hr.2.1
  refine cW.callV (st := []) [.int 0] (am_at hc_B_read 8 rfl) g_B_readBid (Or.inl (tw 160 rfl rfl)) (tw 162 rfl rfl) (tp 2 rfl rfl) 1 k_r1 rfl (by decide) rfl rfl rfl rfl (Nat.le_of_ble_eq_true rfl) (c_B_readBid_all hn 8 0 rfl e D 0 0 hrD (by rw [← hD, am_u_o (by decide)]; exact am_u_i) (by rw [← hD]; exact am_u_i) (Nat.zero_le _) (by decide)) ?_
  rintro _ d2 ⟨rfl, hpl, hF, hv⟩
  show cW _ _ (e + 40) _ m_B_read 15 [some (.ref 13)] [.int (bI (pr_bidk T n 8 0 0).2.isSome)] _ _
  have hF2 : rdF 0 0 d d2 := hFD.tr hF
  have hr2 := hF2.ok hr
  have hgd := pr_bidk_good (T := T) 8 0 0 (Nat.zero_le n) (by decide)
  unfold pr_read
  generalize pr_bidk T n 8 0 0 = r at hpl hv hgd ⊢
  obtain ⟨q, oo⟩ := r
  have hqn : q ≤ n := hgd.1
  cases oo with
  | none =>
    show cW _ _ _ _ m_B_read 15 [some (.ref 13)] [.int 0] _ _
    refine am_if_eq 33 (am_at hc_B_read 9 rfl) (by decide) (fun h3 => ?_) (fun h3 => absurd rfl h3)
    refine am_go cd_B_read hc_B_read 17 1 (pc' := 34) (L' := [some (.ref 13)]) (st' := [.ref 13]) rfl ?_
    refine am_getf 1 2 k_r1 (am_at hc_B_read 18 rfl) rfl (by decide) rfl (by decide) k_ok1 (Or.inl (tw 27 rfl rfl)) (congrArg Value.int hpl) ?_
    exact am_iret (am_at hc_B_read 19 rfl) rfl rfl ⟨rfl, rfl, rfl, hF2, fun _ _ z => by cases z⟩
  | some r =>
    show cW _ _ _ _ m_B_read 15 [some (.ref 13)] [.int 1] _ _
    refine am_if_eq 33 (am_at hc_B_read 9 rfl) (by decide) (fun h3 => absurd h3 (by decide)) (fun h3 => ?_)
    refine am_go cd_B_read hc_B_read 10 1 (pc' := 19) (L' := [some (.ref 13)]) (st' := [.ref 13]) rfl ?_
    refine am_getf 1 2 k_r1 (am_at hc_B_read 11 rfl) rfl (by decide) rfl (by decide) k_ok1 (Or.inl (tw 27 rfl rfl)) (congrArg Value.int hpl) ?_
    refine am_go cd_B_read hc_B_read 12 1 (pc' := 23) (L' := [some (.ref 13)]) (st' := [.ref 13, .int (nI q)]) rfl ?_
    refine am_getf 1 1 k_r1 (am_at hc_B_read 13 rfl) rfl (by decide) rfl (by decide) k_ok1 (Or.inl (tw 26 rfl rfl)) (congrArg Value.int hr2.1) ?_
    refine am_icmp_ne 33 (am_at hc_B_read 14 rfl) (by decide) (fun h4 => ?_) (fun h4 => ?_)
    · have hne : ¬ q = n := fun z => h4 (by rw [z])
      refine am_go cd_B_read hc_B_read 17 1 (pc' := 34) (L' := [some (.ref 13)]) (st' := [.ref 13]) rfl ?_
      refine am_getf 1 2 k_r1 (am_at hc_B_read 18 rfl) rfl (by decide) rfl (by decide) k_ok1 (Or.inl (tw 27 rfl rfl)) (congrArg Value.int hpl) ?_
      refine am_iret (am_at hc_B_read 19 rfl) rfl rfl ⟨rfl, rfl, ?_⟩
      simp only [if_neg hne]
      exact ⟨rfl, hF2, fun _ _ z => by cases z⟩
    · have hne : q = n := (nI_eq (by omega) (by omega)).mp h4
      refine am_go cd_B_read hc_B_read 15 2 (pc' := 37) (L' := [some (.ref 13)]) (st' := [.int (-1)]) rfl ?_
      refine am_iret (am_at hc_B_read 19 rfl) rfl rfl ⟨rfl, rfl, ?_⟩
      simp only [if_pos hne]
      refine ⟨rfl, hF2, fun c' v' z => ?_⟩
      cases z
      exact hv _ _ rfl
end
section
theorem c_sumOver {l : Launch} {x : am_X} {e L : Nat} {d : am_D} (a s : Nat) (f : Nat → Int) (hs : s < 64) (h : SH L a = (0, 6, fun _ => none)) (ha : a < 53 ∨ (1000 ≤ a ∧ a < 1002)) (hf : ∀ j, j < 6 → d a j = zI (f j)) : cM l x e L m_S_sumOver [.ref a, .int (nI s)] d (cR (some (.int (zI (so f s 6)))) d) := by
  refine am_Met.mono (c_S_sumOver a s f hs (by rw [h]) ha (by rw [h]) hf) ?_
  rintro r S' n' d' ⟨rfl, rfl, rfl, rfl⟩
  exact ⟨rfl, rfl, rfl, rfl⟩
/-- what a set counts in a rank; the scores, bidder by bidder -/
def rks (j : Nat) : Int := 6 ^ (5 - j)
def rk (s : Nat) : Int := so rks s 6
def own (w : Nat → Nat → Int) (k : Nat) : Nat → Int := fun t => w k t * 46656 - rk t * (k + 1)
def gs (w : Nat → Nat → Int) (res : Nat → Int) (lo : Int) : Nat → Nat → Int
  | 0 => fun s => so res s 6 * 46656
  | k + 1 => if (k : Int) = lo then gs w res lo k else jn (gs w res lo k) (own w k)
theorem rk_all : (List.range 64).all (fun s => decide (0 ≤ rk s ∧ rk s ≤ 9331)) = true := by decide +kernel
theorem rk_b {s : Nat} (hs : s < 64) : 0 ≤ rk s ∧ rk s ≤ 9331 := of_decide_eq_true (List.all_eq_true.mp rk_all s (List.mem_range.mpr hs))
theorem so_b {f : Nat → Int} (hf : ∀ j, j < 6 → 0 ≤ f j ∧ f j ≤ 999) {s : Nat} (hs : s < 64) : 0 ≤ so f s 6 ∧ so f s 6 ≤ 999 * pcn s := by
  have hb : ∀ i, i < 6 → (s.testBit i = true ↔ s / 2 ^ i % 2 = 1) := fun i _ => by rw [Nat.testBit_eq_decide_div_mod_eq]; simp
  have h0 := hf 0 (by decide); have h1 := hf 1 (by decide); have h2 := hf 2 (by decide); have h3 := hf 3 (by decide); have h4 := hf 4 (by decide); have h5 := hf 5 (by decide)
  have b0 := hb 0 (by decide); have b1 := hb 1 (by decide); have b2 := hb 2 (by decide); have b3 := hb 3 (by decide); have b4 := hb 4 (by decide); have b5 := hb 5 (by decide)
  simp only [so]
  unfold pcn
  have p0 : s / 2 ^ 0 = s := by simp
  have p1 : s / 2 ^ 1 = s / 2 := rfl
  have p2 : s / 2 ^ 2 = s / 4 := rfl
  have p3 : s / 2 ^ 3 = s / 8 := rfl
  have p4 : s / 2 ^ 4 = s / 16 := rfl
  have p5 : s / 2 ^ 5 = s / 32 := rfl
  rw [p0] at b0; rw [p1] at b1; rw [p2] at b2; rw [p3] at b3; rw [p4] at b4; rw [p5] at b5
  have e0 : (if s.testBit 0 = true then f 0 else 0) ≥ 0 ∧ (if s.testBit 0 = true then f 0 else 0) ≤ 999 * ((s % 2 : Nat) : Int) := by
    by_cases z : s.testBit 0 = true
    · have := b0.mp z; rw [if_pos z]; omega
    · rw [if_neg z]; omega
  have e1 : (if s.testBit 1 = true then f 1 else 0) ≥ 0 ∧ (if s.testBit 1 = true then f 1 else 0) ≤ 999 * ((s / 2 % 2 : Nat) : Int) := by
    by_cases z : s.testBit 1 = true
    · have := b1.mp z; rw [if_pos z]; omega
    · rw [if_neg z]; omega
  have e2 : (if s.testBit 2 = true then f 2 else 0) ≥ 0 ∧ (if s.testBit 2 = true then f 2 else 0) ≤ 999 * ((s / 4 % 2 : Nat) : Int) := by
    by_cases z : s.testBit 2 = true
    · have := b2.mp z; rw [if_pos z]; omega
    · rw [if_neg z]; omega
  have e3 : (if s.testBit 3 = true then f 3 else 0) ≥ 0 ∧ (if s.testBit 3 = true then f 3 else 0) ≤ 999 * ((s / 8 % 2 : Nat) : Int) := by
    by_cases z : s.testBit 3 = true
    · have := b3.mp z; rw [if_pos z]; omega
    · rw [if_neg z]; omega
  have e4 : (if s.testBit 4 = true then f 4 else 0) ≥ 0 ∧ (if s.testBit 4 = true then f 4 else 0) ≤ 999 * ((s / 16 % 2 : Nat) : Int) := by
    by_cases z : s.testBit 4 = true
    · have := b4.mp z; rw [if_pos z]; omega
    · rw [if_neg z]; omega
  have e5 : (if s.testBit 5 = true then f 5 else 0) ≥ 0 ∧ (if s.testBit 5 = true then f 5 else 0) ≤ 999 * ((s / 32 % 2 : Nat) : Int) := by
    by_cases z : s.testBit 5 = true
    · have := b5.mp z; rw [if_pos z]; omega
    · rw [if_neg z]; omega
  omega
theorem own_b {w : Nat → Nat → Int} (hw : ∀ b, b < 5 → tb_ok (w b)) {k : Nat} (hk : k < 5) {s : Nat} (hs : s < 64) : -500000 ≤ own w k s ∧ own w k s ≤ 46609344 * pcn s := by
  have h1 := (hw k hk).1 s hs
  have h2 := rk_b hs
  unfold own
  have h3 : 0 ≤ rk s * ((k : Int) + 1) := Int.mul_nonneg h2.1 (by omega)
  have h4 : rk s * ((k : Int) + 1) ≤ 9331 * 5 := Int.mul_le_mul h2.2 (by omega) (by omega) (by omega)
  omega
theorem gs_b {w : Nat → Nat → Int} {res : Nat → Int} (hw : ∀ b, b < 5 → tb_ok (w b)) (hres : ∀ j, j < 6 → 0 ≤ res j ∧ res j ≤ 999) (lo : Int) : ∀ k, k ≤ 5 → ∀ s, s < 64 → 0 ≤ gs w res lo k s ∧ gs w res lo k s ≤ 46609344 * pcn s
  | 0, _, s, hs => by
    have := so_b hres hs
    show 0 ≤ so res s 6 * 46656 ∧ so res s 6 * 46656 ≤ _
    omega
  | k + 1, hk, s, hs => by
    have ih := gs_b hw hres lo k (by omega)
    unfold gs
    split
    · exact ih s hs
    · have h1 := jn_ge (gs w res lo k) (own w k) hs (Nat.and_self s)
      have e0 : own w k 0 = 0 := by unfold own; rw [(hw k (by omega)).zero]; show 0 * 46656 - rk 0 * _ = 0; rw [show rk 0 = 0 by decide]; omega
      rw [Nat.sub_self, e0] at h1
      obtain ⟨p, hp, e⟩ := jn_is (gs w res lo k) (own w k) hs
      have h2 := ih p (sub_lt hs hp)
      have h3 := own_b hw (k := k) (by omega) (s := s - p) (by omega)
      have h4 := (pcn_sub hs hp).1
      have h5 := ih s hs
      refine ⟨by omega, ?_⟩
      rw [e]; omega
theorem gs_big {w : Nat → Nat → Int} {res : Nat → Int} (hw : ∀ b, b < 5 → tb_ok (w b)) (hres : ∀ j, j < 6 → 0 ≤ res j ∧ res j ≤ 999) (lo : Int) {k : Nat} (hk : k ≤ 5) : ∀ s, s < 64 → -500000000 ≤ gs w res lo k s ∧ gs w res lo k s ≤ 500000000 := fun s hs => by
  have h1 := gs_b hw hres lo k hk s hs
  have h2 := pcn_le s hs
  omega
theorem own_big {w : Nat → Nat → Int} (hw : ∀ b, b < 5 → tb_ok (w b)) {k : Nat} (hk : k < 5) : ∀ s, s < 64 → -500000000 ≤ own w k s ∧ own w k s ≤ 500000000 := fun s hs => by
  have h1 := own_b hw hk hs
  have h2 := pcn_le s hs
  omega
set_option maxHeartbeats 4000000 in
theorem c_S_welfareIn {l : Launch} {x : am_X} {e L : Nat} {d : am_D} (v : Int) (h1 : -46655 ≤ v) (h2 : v ≤ 500000000) : cM l x e L m_S_welfareIn [.int (zI v)] d (cR (some (.int (zI ((v + 46655) / 46656)))) d) := by
  refine cM.go (by decide) (by simp [Value.category]) (Nat.le_of_ble_eq_true rfl) ?_
  refine am_go cd_S_welfareIn hc_S_welfareIn 0 1 (pc' := 1) (L' := [some (.int (zI v))]) (st' := [.int (zI v)]) rfl ?_
  refine am_ldc 46656 (am_at hc_S_welfareIn 1 rfl) (tw 247 rfl rfl) ?_
  refine am_go cd_S_welfareIn hc_S_welfareIn 2 1 (pc' := 4) (L' := [some (.int (zI v))]) (st' := [.int (zI v + 46656)]) rfl ?_
  rw [show zI v + 46656 = zI (v + 46656) from zI_add v 46656]
  refine am_go cd_S_welfareIn hc_S_welfareIn 3 2 (pc' := 6) (L' := [some (.int (zI v))]) (st' := [.int (zI (v + 46656) - 1)]) rfl ?_
  rw [show zI (v + 46656) - 1 = zI (v + 46656 - 1) from zI_sub _ 1]
  refine am_ldc 46656 (am_at hc_S_welfareIn 5 rfl) (tw 247 rfl rfl) ?_
  refine am_idiv (am_at hc_S_welfareIn 6 rfl) (by decide) ?_
  have e1 : zI (v + 46656 - 1) / (46656 : Int32) = zI ((v + 46655) / 46656) := by
    have := zI_div (a := v + 46656 - 1) (b := 46656) (by omega) (by omega) (by decide) (by decide)
    rw [show v + 46656 - 1 = v + 46655 by omega] at this ⊢
    exact this
  rw [e1]
  exact am_iret (am_at hc_S_welfareIn 7 rfl) rfl rfl (cR_in rfl rfl)
set_option maxHeartbeats 4000000 in
theorem c_S_scoreBidder {l : Launch} {x : am_X} {e L : Nat} {d : am_D} (wt : Nat → Nat → Int) (k : Nat) (hk : k < 5) (hw : ∀ s, s < 64 → d (8 + k) s = zI (wt k s)) (hrk : ∀ s, s < 64 → d 37 s = zI (rk s)) : cM l x e L m_S_scoreBidder [.ref 36, .ref (8 + k), .int (zI (k + 1))] d (cR none (am_tb d 39 64 (fun s => zI (own wt k s)))) := by
  refine cM.go (by decide) (by simp [Value.category]) (Nat.le_of_ble_eq_true rfl) ?_
  refine am_go cd_S_scoreBidder hc_S_scoreBidder 0 2 (pc' := 2) (L' := [some (.ref 36), some (.ref (8 + k)), some (.int (zI (k + 1))), some (.int 0)]) (st' := []) rfl ?_
  have hsh := SH_w L k hk
  have loop : ∀ q j, j + q = 64 → cW l x e L m_S_scoreBidder 2 [some (.ref 36), some (.ref (8 + k)), some (.int (zI (k + 1))), some (.int (nI j))] [] (am_tb d 39 j (fun s => zI (own wt k s))) (cR none (am_tb d 39 64 (fun s => zI (own wt k s)))) := by
    intro q
    induction q with
    | zero =>
      intro j hj
      refine am_go cd_S_scoreBidder hc_S_scoreBidder 2 2 (pc' := 5) (L' := [some (.ref 36), some (.ref (8 + k)), some (.int (zI (k + 1))), some (.int (nI j))]) (st' := [.int 64, .int (nI j)]) rfl ?_
      refine am_icmp_ge 35 (am_at hc_S_scoreBidder 4 rfl) (by decide) (fun h => ?_) (fun h => absurd (nI_le (a := 64) (b := j) (by omega) (by omega)) h)
      exact am_vret (am_at hc_S_scoreBidder 23 rfl) rfl (cR_in rfl (by rw [show j = 64 by omega]))
    | succ q ih =>
      intro j hj
      refine am_go cd_S_scoreBidder hc_S_scoreBidder 2 2 (pc' := 5) (L' := [some (.ref 36), some (.ref (8 + k)), some (.int (zI (k + 1))), some (.int (nI j))]) (st' := [.int 64, .int (nI j)]) rfl ?_
      refine am_icmp_ge 35 (am_at hc_S_scoreBidder 4 rfl) (by decide) (fun h => absurd h (nI_ge (a := j) (b := 64) (by omega) (by omega))) (fun h => ?_)
      refine am_go cd_S_scoreBidder hc_S_scoreBidder 5 1 (pc' := 9) (L' := [some (.ref 36), some (.ref (8 + k)), some (.int (zI (k + 1))), some (.int (nI j))]) (st' := [.ref 36]) rfl ?_
      refine am_getf 2 2 k_r2 (am_at hc_S_scoreBidder 6 rfl) rfl (by decide) rfl (by decide) k_ok2 (Or.inl (tw 67 rfl rfl)) rfl ?_
      refine am_go cd_S_scoreBidder hc_S_scoreBidder 7 3 (pc' := 15) (L' := [some (.ref 36), some (.ref (8 + k)), some (.int (zI (k + 1))), some (.int (nI j))]) (st' := [.int (nI j), .ref (8 + k), .int (nI j), .ref 39]) rfl ?_
      refine am_iaload (j) (am_at hc_S_scoreBidder 10 rfl) (by rw [hsh]) (Or.inl (by omega)) rfl (by rw [hsh]; show j < 64; omega) (by rw [hsh]; decide) ?_
      rw [show am_tb d 39 j (fun s => zI (own wt k s)) (8 + k) j = zI (wt k j) from (congrFun (am_tb_ne (by omega)) j).trans (hw j (by omega))]
      refine am_ldc 46656 (am_at hc_S_scoreBidder 11 rfl) (tw 247 rfl rfl) ?_
      refine am_go cd_S_scoreBidder hc_S_scoreBidder 12 1 (pc' := 19) (L' := [some (.ref 36), some (.ref (8 + k)), some (.int (zI (k + 1))), some (.int (nI j))]) (st' := [.int (zI (wt k j) * 46656), .int (nI j), .ref 39]) rfl ?_
      rw [show zI (wt k j) * 46656 = zI (wt k j * 46656) from zI_mul _ 46656]
      refine am_go cd_S_scoreBidder hc_S_scoreBidder 13 1 (pc' := 20) (L' := [some (.ref 36), some (.ref (8 + k)), some (.int (zI (k + 1))), some (.int (nI j))]) (st' := [.ref 36, .int (zI (wt k j * 46656)), .int (nI j), .ref 39]) rfl ?_
      refine am_getf 2 0 k_r2 (am_at hc_S_scoreBidder 14 rfl) rfl (by decide) rfl (by decide) k_ok2 (Or.inl (tw 65 rfl rfl)) rfl ?_
      refine am_go cd_S_scoreBidder hc_S_scoreBidder 15 1 (pc' := 24) (L' := [some (.ref 36), some (.ref (8 + k)), some (.int (zI (k + 1))), some (.int (nI j))]) (st' := [.int (nI j), .ref 37, .int (zI (wt k j * 46656)), .int (nI j), .ref 39]) rfl ?_
      refine am_iaload (j) (am_at hc_S_scoreBidder 16 rfl) rfl (Or.inl (by decide)) rfl (by show j < 64; omega) (Nat.le_of_ble_eq_true rfl) ?_
      rw [show am_tb d 39 j (fun s => zI (own wt k s)) 37 j = zI (rk j) from (congrFun (am_tb_ne (by decide)) j).trans (hrk j (by omega))]
      refine am_go cd_S_scoreBidder hc_S_scoreBidder 17 2 (pc' := 27) (L' := [some (.ref 36), some (.ref (8 + k)), some (.int (zI (k + 1))), some (.int (nI j))]) (st' := [.int (zI (rk j) * zI (k + 1)), .int (zI (wt k j * 46656)), .int (nI j), .ref 39]) rfl ?_
      rw [show zI (rk j) * zI (k + 1) = zI (rk j * (k + 1)) from zI_mul _ _]
      refine am_go cd_S_scoreBidder hc_S_scoreBidder 19 1 (pc' := 28) (L' := [some (.ref 36), some (.ref (8 + k)), some (.int (zI (k + 1))), some (.int (nI j))]) (st' := [.int (zI (wt k j * 46656) - zI (rk j * (k + 1))), .int (nI j), .ref 39]) rfl ?_
      rw [show zI (wt k j * 46656) - zI (rk j * (k + 1)) = zI (own wt k j) from zI_sub _ _]
      refine am_iastore (j) (am_at hc_S_scoreBidder 20 rfl) rfl (by decide) rfl (by show j < 64; omega) (Nat.le_of_ble_eq_true rfl) ?_
      refine am_go cd_S_scoreBidder hc_S_scoreBidder 21 2 (pc' := 2) (L' := [some (.ref 36), some (.ref (8 + k)), some (.int (zI (k + 1))), some (.int (nI j + 1))]) (st' := []) rfl ?_
      rw [nI_1, am_tb_s d 39 j (fun s => zI (own wt k s))]
      exact ih (j + 1) (by omega)
  have h0 := loop 64 0 rfl
  rw [am_tb_0] at h0
  exact h0
set_option maxHeartbeats 4000000 in
theorem c_S_greatestScore {l : Launch} {x : am_X} {e L : Nat} {d : am_D} (wt : Nat → Nat → Int) (res : Nat → Int) (lo : Int) (hl1 : -1 ≤ lo) (hl2 : lo ≤ 4) (hw : ∀ b, b < 5 → ∀ s, s < 64 → d (8 + b) s = zI (wt b s)) (hwt : ∀ b, b < 5 → tb_ok (wt b)) (hrs : ∀ j, j < 6 → d 3 j = zI (res j)) (hres : ∀ j, j < 6 → 0 ≤ res j ∧ res j ≤ 999) (hrk : ∀ s, s < 64 → d 37 s = zI (rk s)) : cM l x (e + 2) L m_S_greatestScore [.ref 36, .ref 7, .ref 3, .int (zI lo)] d (fun ret d' => ret = some (.int (zI (gs wt res lo 5 63))) ∧ ∀ a, a ≠ 38 → a ≠ 39 → d' a = d a) := by
  refine cM.go (by decide) (by simp [Value.category]) (Nat.le_of_ble_eq_true rfl) ?_
  refine am_go cd_S_greatestScore hc_S_greatestScore 0 2 (pc' := 3) (L' := [some (.ref 36), some (.ref 7), some (.ref 3), some (.int (zI lo)), some (.int 0)]) (st' := []) rfl ?_
  have loop2 : ∀ q k d1, k + q = 5 → (∀ a, a ≠ 38 → a ≠ 39 → d1 a = d a) → (∀ s, s < 64 → d1 38 s = zI (gs wt res lo k s)) → cW l x (e + 2) L m_S_greatestScore 35 [some (.ref 36), some (.ref 7), some (.ref 3), some (.int (zI lo)), some (.int (nI k))] [] d1 (fun ret d' => ret = some (.int (zI (gs wt res lo 5 63))) ∧ ∀ a, a ≠ 38 → a ≠ 39 → d' a = d a) := by
    intro q
    induction q with
    | zero =>
      intro k d1 hk ho ht
      have hk5 : k = 5 := by omega
      subst hk5
      refine am_go cd_S_greatestScore hc_S_greatestScore 18 2 (pc' := 38) (L' := [some (.ref 36), some (.ref 7), some (.ref 3), some (.int (zI lo)), some (.int (nI 5))]) (st' := [.int 5, .int (nI 5)]) rfl ?_
      refine am_icmp_ge 76 (am_at hc_S_greatestScore 20 rfl) (by decide) (fun h => ?_) (fun h => absurd (nI_le (a := 5) (b := 5) (by omega) (by omega)) h)
      refine am_go cd_S_greatestScore hc_S_greatestScore 39 1 (pc' := 77) (L' := [some (.ref 36), some (.ref 7), some (.ref 3), some (.int (zI lo)), some (.int (nI 5))]) (st' := [.ref 36]) rfl ?_
      refine am_getf 2 1 k_r2 (am_at hc_S_greatestScore 40 rfl) rfl (by decide) rfl (by decide) k_ok2 (Or.inl (tw 66 rfl rfl)) rfl ?_
      refine am_go cd_S_greatestScore hc_S_greatestScore 41 1 (pc' := 82) (L' := [some (.ref 36), some (.ref 7), some (.ref 3), some (.int (zI lo)), some (.int (nI 5))]) (st' := [.int 63, .ref 38]) rfl ?_
      refine am_iaload (63) (am_at hc_S_greatestScore 42 rfl) rfl (Or.inl (by decide)) rfl (Nat.le_of_ble_eq_true rfl) (Nat.le_of_ble_eq_true rfl) ?_
      exact am_iret (am_at hc_S_greatestScore 43 rfl) rfl rfl ⟨rfl, rfl, by rw [ht 63 (by decide)], ho⟩
    | succ q ih =>
      intro k d1 hk ho ht
      refine am_go cd_S_greatestScore hc_S_greatestScore 18 2 (pc' := 38) (L' := [some (.ref 36), some (.ref 7), some (.ref 3), some (.int (zI lo)), some (.int (nI k))]) (st' := [.int 5, .int (nI k)]) rfl ?_
      refine am_icmp_ge 76 (am_at hc_S_greatestScore 20 rfl) (by decide) (fun h => absurd h (nI_ge (a := k) (b := 5) (by omega) (by omega))) (fun h => ?_)
      refine am_go cd_S_greatestScore hc_S_greatestScore 21 2 (pc' := 44) (L' := [some (.ref 36), some (.ref 7), some (.ref 3), some (.int (zI lo)), some (.int (nI k))]) (st' := [.int (zI lo), .int (nI k)]) rfl ?_
      refine am_icmp_eq 70 (am_at hc_S_greatestScore 23 rfl) (by decide) (fun h2 => ?_) (fun h2 => ?_)
      · have hlk : (k : Int) = lo := by rw [nI_zI] at h2; exact (zI_eq (by omega) (by omega) (by omega) (by omega)).mp h2
        refine am_go cd_S_greatestScore hc_S_greatestScore 37 2 (pc' := 35) (L' := [some (.ref 36), some (.ref 7), some (.ref 3), some (.int (zI lo)), some (.int (nI k + 1))]) (st' := []) rfl ?_
        rw [nI_1]
        exact ih (k + 1) d1 (by omega) ho (fun s hs => by rw [ht s hs]; show _ = zI ((if (k : Int) = lo then gs wt res lo k else jn (gs wt res lo k) (own wt k)) s); rw [if_pos hlk])
      · have hlk : ¬ (k : Int) = lo := fun z => h2 (by rw [nI_zI, z])
        refine am_go cd_S_greatestScore hc_S_greatestScore 24 3 (pc' := 51) (L' := [some (.ref 36), some (.ref 7), some (.ref 3), some (.int (zI lo)), some (.int (nI k))]) (st' := [.int (nI k), .ref 7, .ref 36]) rfl ?_
        refine am_aaload (k) (8 + k) (am_at hc_S_greatestScore 27 rfl) rfl (by decide) rfl (by show k < 5; omega) (Nat.le_of_ble_eq_true rfl) (if_pos (by omega : k < 5)) ?_
        refine am_go cd_S_greatestScore hc_S_greatestScore 28 3 (pc' := 56) (L' := [some (.ref 36), some (.ref 7), some (.ref 3), some (.int (zI lo)), some (.int (nI k))]) (st' := [.int (nI k + 1), .ref (8 + k), .ref 36]) rfl ?_
        rw [show nI k + 1 = zI (k + 1) from by rw [nI_zI]; exact zI_add _ 1]
        refine cW.callV1 59 [] (st := []) [.ref (8 + k), .int (zI (k + 1))] (am_at hc_S_greatestScore 31 rfl) g_S_scoreBidder (Or.inl (tw 248 rfl rfl)) (tw 250 rfl rfl) (tp 15 rfl rfl) 2 k_r2 rfl (by decide) rfl rfl rfl rfl (Nat.le_of_ble_eq_true rfl) (c_S_scoreBidder wt k (by omega) (fun s hs => by rw [ho (8 + k) (by omega) (by omega)]; exact hw k (by omega) s hs) (fun s hs => by rw [ho 37 (by decide) (by decide)]; exact hrk s hs)) rfl rfl ?_
        refine am_go cd_S_greatestScore hc_S_greatestScore 32 1 (pc' := 60) (L' := [some (.ref 36), some (.ref 7), some (.ref 3), some (.int (zI lo)), some (.int (nI k))]) (st' := [.ref 36]) rfl ?_
        refine am_getf 2 1 k_r2 (am_at hc_S_greatestScore 33 rfl) rfl (by decide) rfl (by decide) k_ok2 (Or.inl (tw 66 rfl rfl)) rfl ?_
        refine am_go cd_S_greatestScore hc_S_greatestScore 34 1 (pc' := 64) (L' := [some (.ref 36), some (.ref 7), some (.ref 3), some (.int (zI lo)), some (.int (nI k))]) (st' := [.ref 36, .ref 38]) rfl ?_
        refine am_getf 2 2 k_r2 (am_at hc_S_greatestScore 35 rfl) rfl (by decide) rfl (by decide) k_ok2 (Or.inl (tw 67 rfl rfl)) rfl ?_
        refine cW.callS1 70 [] (st := []) [.ref 38, .ref 39] (am_at hc_S_greatestScore 36 rfl) g_A_join (Or.inr ⟨_, tn 252 rfl rfl⟩) (tw 213 rfl rfl) rfl rfl (Nat.le_of_ble_eq_true rfl) (c_join 38 39 (gs wt res lo k) (own wt k) rfl rfl (by decide) (by decide) (by decide) (fun s hs => by rw [am_tb_ne (by decide)]; exact ht s hs) (fun s hs => am_tb_lt hs) (gs_big hwt hres lo (by omega)) (own_big hwt (by omega))) rfl rfl ?_
        refine am_go cd_S_greatestScore hc_S_greatestScore 37 2 (pc' := 35) (L' := [some (.ref 36), some (.ref 7), some (.ref 3), some (.int (zI lo)), some (.int (nI k + 1))]) (st' := []) rfl ?_
        rw [nI_1]
        exact ih (k + 1) _ (by omega) (fun a z1 z2 => by rw [am_tb_ne z1, am_tb_ne z2]; exact ho a z1 z2) (fun s hs => by rw [am_tb_lt hs]; show _ = zI ((if (k : Int) = lo then gs wt res lo k else jn (gs wt res lo k) (own wt k)) s); rw [if_neg hlk])
  have loop : ∀ q j, j + q = 64 → cW l x (e + 2) L m_S_greatestScore 3 [some (.ref 36), some (.ref 7), some (.ref 3), some (.int (zI lo)), some (.int (nI j))] [] (am_tb d 38 j (fun s => zI (gs wt res lo 0 s))) (fun ret d' => ret = some (.int (zI (gs wt res lo 5 63))) ∧ ∀ a, a ≠ 38 → a ≠ 39 → d' a = d a) := by
    intro q
    induction q with
    | zero =>
      intro j hj
      refine am_go cd_S_greatestScore hc_S_greatestScore 2 2 (pc' := 7) (L' := [some (.ref 36), some (.ref 7), some (.ref 3), some (.int (zI lo)), some (.int (nI j))]) (st' := [.int 64, .int (nI j)]) rfl ?_
      refine am_icmp_ge 32 (am_at hc_S_greatestScore 4 rfl) (by decide) (fun h => ?_) (fun h => absurd (nI_le (a := 64) (b := j) (by omega) (by omega)) h)
      refine am_go cd_S_greatestScore hc_S_greatestScore 16 2 (pc' := 35) (L' := [some (.ref 36), some (.ref 7), some (.ref 3), some (.int (zI lo)), some (.int 0)]) (st' := []) rfl ?_
      rw [show j = 64 by omega]
      exact loop2 5 0 _ rfl (fun a z1 _ => am_tb_ne z1) (fun s hs => am_tb_lt hs)
    | succ q ih =>
      intro j hj
      refine am_go cd_S_greatestScore hc_S_greatestScore 2 2 (pc' := 7) (L' := [some (.ref 36), some (.ref 7), some (.ref 3), some (.int (zI lo)), some (.int (nI j))]) (st' := [.int 64, .int (nI j)]) rfl ?_
      refine am_icmp_ge 32 (am_at hc_S_greatestScore 4 rfl) (by decide) (fun h => absurd h (nI_ge (a := j) (b := 64) (by omega) (by omega))) (fun h => ?_)
      refine am_go cd_S_greatestScore hc_S_greatestScore 5 1 (pc' := 11) (L' := [some (.ref 36), some (.ref 7), some (.ref 3), some (.int (zI lo)), some (.int (nI j))]) (st' := [.ref 36]) rfl ?_
      refine am_getf 2 1 k_r2 (am_at hc_S_greatestScore 6 rfl) rfl (by decide) rfl (by decide) k_ok2 (Or.inl (tw 66 rfl rfl)) rfl ?_
      refine am_go cd_S_greatestScore hc_S_greatestScore 7 3 (pc' := 19) (L' := [some (.ref 36), some (.ref 7), some (.ref 3), some (.int (zI lo)), some (.int (nI j))]) (st' := [.int (nI j), .ref 3, .int (nI j), .ref 38]) rfl ?_
      refine cW.callS1 22 [.int (zI (so res j 6)), .int (nI j), .ref 38] (st := [.int (nI j), .ref 38]) [.ref 3, .int (nI j)] (am_at hc_S_greatestScore 10 rfl) g_S_sumOver (Or.inl (tw 62 rfl rfl)) (tw 63 rfl rfl) rfl rfl (Nat.le_of_ble_eq_true rfl) (c_sumOver 3 j res (by omega) rfl (Or.inl (by decide)) (fun i hi => by rw [am_tb_ne (by decide)]; exact hrs i hi)) rfl rfl ?_
      refine am_ldc 46656 (am_at hc_S_greatestScore 11 rfl) (tw 247 rfl rfl) ?_
      refine am_go cd_S_greatestScore hc_S_greatestScore 12 1 (pc' := 25) (L' := [some (.ref 36), some (.ref 7), some (.ref 3), some (.int (zI lo)), some (.int (nI j))]) (st' := [.int (zI (so res j 6) * 46656), .int (nI j), .ref 38]) rfl ?_
      rw [show zI (so res j 6) * 46656 = zI (gs wt res lo 0 j) from zI_mul _ 46656]
      refine am_iastore (j) (am_at hc_S_greatestScore 13 rfl) rfl (by decide) rfl (by show j < 64; omega) (Nat.le_of_ble_eq_true rfl) ?_
      refine am_go cd_S_greatestScore hc_S_greatestScore 14 2 (pc' := 3) (L' := [some (.ref 36), some (.ref 7), some (.ref 3), some (.int (zI lo)), some (.int (nI j + 1))]) (st' := []) rfl ?_
      rw [nI_1, am_tb_s d 38 j (fun s => zI (gs wt res lo 0 s))]
      exact ih (j + 1) (by omega)
  have h0 := loop 64 0 rfl
  rw [am_tb_0] at h0
  exact h0
set_option maxHeartbeats 4000000 in
theorem c_S_writeOwners {l : Launch} {x : am_X} {e L : Nat} {d : am_D} (v : Int) (r : Nat) (hr2 : r < 46656) (hv1 : 0 ≤ v) (hv2 : v ≤ 500000000) (hv : ((v + 46655) / 46656) * 46656 - v = r) : cM l x (e + 1) L m_S_writeOwners [.int (zI v), .ref 4] d (cR none (am_tb d 4 6 (fun j => zI (((r / 6 ^ (5 - j) % 6 : Nat) : Int) - 1)))) := by
  refine cM.go (by decide) (by simp [Value.category]) (Nat.le_of_ble_eq_true rfl) ?_
  refine am_go cd_S_writeOwners hc_S_writeOwners 0 1 (pc' := 1) (L' := [some (.int (zI v)), some (.ref 4), none, none]) (st' := [.int (zI v)]) rfl ?_
  refine cW.callS1 4 [.int (zI ((v + 46655) / 46656))] (st := []) [.int (zI v)] (am_at hc_S_writeOwners 1 rfl) g_S_welfareIn (Or.inl (tw 263 rfl rfl)) (tw 254 rfl rfl) rfl rfl (Nat.le_of_ble_eq_true rfl) (c_S_welfareIn v (by omega) (by omega)) rfl rfl ?_
  refine am_ldc 46656 (am_at hc_S_writeOwners 2 rfl) (tw 247 rfl rfl) ?_
  refine am_go cd_S_writeOwners hc_S_writeOwners 3 2 (pc' := 8) (L' := [some (.int (zI v)), some (.ref 4), none, none]) (st' := [.int (zI v), .int (zI ((v + 46655) / 46656) * 46656)]) rfl ?_
  have e1 : zI ((v + 46655) / 46656) * 46656 - zI v = nI r := by
    rw [show zI ((v + 46655) / 46656) * (46656 : Int32) = zI ((v + 46655) / 46656 * 46656) from zI_mul _ 46656, zI_sub, nI_zI]
    congr 1 <;> omega
  refine am_go cd_S_writeOwners hc_S_writeOwners 5 1 (pc' := 9) (L' := [some (.int (zI v)), some (.ref 4), none, none]) (st' := [.int ((zI ((v + 46655) / 46656) * 46656) - zI v)]) rfl ?_
  rw [e1]
  refine am_go cd_S_writeOwners hc_S_writeOwners 6 3 (pc' := 12) (L' := [some (.int (zI v)), some (.ref 4), some (.int (nI r)), some (.int 5)]) (st' := []) rfl ?_
  have loop : ∀ k, k ≤ 6 → cW l x (e + 1) L m_S_writeOwners 12 [some (.int (zI v)), some (.ref 4), some (.int (nI (r / 6 ^ (6 - k)))), some (.int (nI k - 1))] [] (am_td d 4 k 6 (fun j => zI (((r / 6 ^ (5 - j) % 6 : Nat) : Int) - 1))) (cR none (am_tb d 4 6 (fun j => zI (((r / 6 ^ (5 - j) % 6 : Nat) : Int) - 1)))) := by
    intro k
    induction k with
    | zero =>
      intro hk
      refine am_go cd_S_writeOwners hc_S_writeOwners 9 1 (pc' := 13) (L' := [some (.int (zI v)), some (.ref 4), some (.int (nI (r / 6 ^ (6 - 0)))), some (.int (nI 0 - 1))]) (st' := [.int (nI 0 - 1)]) rfl ?_
      refine am_if_lt 36 (am_at hc_S_writeOwners 10 rfl) (by decide) (fun h => ?_) (fun h => absurd (by decide) h)
      exact am_vret (am_at hc_S_writeOwners 25 rfl) rfl (cR_in rfl (am_td_tb _ _ _ _))
    | succ s ih =>
      intro hk
      rw [nI_pred]
      have hq : r / 6 ^ (6 - (s + 1)) < 46656 := Nat.lt_of_le_of_lt (Nat.div_le_self _ _) hr2
      rw [show 6 - (s + 1) = 5 - s by omega] at hq ⊢
      refine am_go cd_S_writeOwners hc_S_writeOwners 9 1 (pc' := 13) (L' := [some (.int (zI v)), some (.ref 4), some (.int (nI (r / 6 ^ (5 - s)))), some (.int (nI s))]) (st' := [.int (nI s)]) rfl ?_
      refine am_if_lt 36 (am_at hc_S_writeOwners 10 rfl) (by decide) (fun h => absurd h (nI_pos (by omega))) (fun h => ?_)
      refine am_go cd_S_writeOwners hc_S_writeOwners 11 4 (pc' := 21) (L' := [some (.int (zI v)), some (.ref 4), some (.int (nI (r / 6 ^ (5 - s)))), some (.int (nI s))]) (st' := [.int 6, .int (nI (r / 6 ^ (5 - s))), .int (nI s), .ref 4]) rfl ?_
      refine am_irem (am_at hc_S_writeOwners 15 rfl) (by decide) ?_
      rw [show nI (r / 6 ^ (5 - s)) - nI (r / 6 ^ (5 - s)) / 6 * 6 = nI (r / 6 ^ (5 - s) % 6) from pk_rem (d := 6) (by omega) (by decide) (by decide)]
      refine am_go cd_S_writeOwners hc_S_writeOwners 16 2 (pc' := 24) (L' := [some (.int (zI v)), some (.ref 4), some (.int (nI (r / 6 ^ (5 - s)))), some (.int (nI s))]) (st' := [.int (nI (r / 6 ^ (5 - s) % 6) - 1), .int (nI s), .ref 4]) rfl ?_
      rw [show nI (r / 6 ^ (5 - s) % 6) - 1 = zI (((r / 6 ^ (5 - s) % 6 : Nat) : Int) - 1) from by rw [nI_zI]; exact zI_sub _ 1]
      refine am_iastore (s) (am_at hc_S_writeOwners 18 rfl) rfl (by decide) rfl (by show s < 6; omega) (Nat.le_of_ble_eq_true rfl) ?_
      refine am_go cd_S_writeOwners hc_S_writeOwners 19 2 (pc' := 28) (L' := [some (.int (zI v)), some (.ref 4), some (.int (nI (r / 6 ^ (5 - s)))), some (.int (nI s))]) (st' := [.int 6, .int (nI (r / 6 ^ (5 - s)))]) rfl ?_
      refine am_idiv (am_at hc_S_writeOwners 21 rfl) (by decide) ?_
      rw [show nI (r / 6 ^ (5 - s)) / 6 = nI (r / 6 ^ (6 - s)) from by rw [show (6 : Int32) = nI 6 from rfl, pk_div (by omega) (by decide) (by decide), Nat.div_div_eq_div_mul, ← Nat.pow_succ, show (5 - s).succ = 6 - s by omega]]
      refine am_go cd_S_writeOwners hc_S_writeOwners 22 3 (pc' := 12) (L' := [some (.int (zI v)), some (.ref 4), some (.int (nI (r / 6 ^ (6 - s)))), some (.int (nI s + (-1)))]) (st' := []) rfl ?_
      rw [i_dec, am_td_s d 4 s 6 (fun j => zI (((r / 6 ^ (5 - j) % 6 : Nat) : Int) - 1)) (by omega)]
      exact ih (by omega)
  have h0 := loop 6 (Nat.le_refl _)
  rw [am_td_N, show 6 - 6 = 0 from rfl, Nat.pow_zero, Nat.div_one] at h0
  exact h0
end
section
/-- the class's cells hold this state of the house -/
def RA (cash esc pd pt ow : Nat → Int32) (res : Nat → Int) (wt : Nat → Nat → Int) (T : Nat → Nat) (n : Nat) (se : Int32) (cl : Bool) (d : am_D) : Prop :=
  (∀ b, b < 5 → d 1 b = cash b) ∧ (∀ b, b < 5 → d 2 b = esc b) ∧ (∀ b, b < 5 → d 5 b = pd b) ∧ (∀ b, b < 5 → d 6 b = pt b) ∧ (∀ j, j < 6 → d 4 j = ow j) ∧ (∀ j, j < 6 → d 3 j = zI (res j) ∧ 0 ≤ res j ∧ res j ≤ 999) ∧ (∀ b, b < 5 → tb_ok (wt b) ∧ ∀ s, s < 64 → d (8 + b) s = zI (wt b s)) ∧ rd_ok d T n ∧ d 0 9 = se ∧ d 0 10 = bI cl ∧ ∀ s, s < 64 → d 37 s = zI (rk s)
/-- the reference's cells hold it -/
def RM (cash esc pd pt ow : Nat → Int32) (res : Nat → Int) (wt : Nat → Nat → Int) (T : Nat → Nat) (n : Nat) (se : Int32) (cl : Bool) (d : am_D) : Prop :=
  (∀ b, b < 5 → d 41 b = cash b) ∧ (∀ b, b < 5 → d 42 b = esc b) ∧ (∀ b, b < 5 → d 52 b = pd b) ∧ (∀ b, b < 5 → d 46 b = pt b) ∧ (∀ j, j < 6 → d 51 j = ow j) ∧ (∀ j, j < 6 → d 43 j = zI (res j) ∧ 0 ≤ res j ∧ res j ≤ 999) ∧ (∀ b, b < 5 → tb_ok (wt b) ∧ ∀ s, s < 64 → d 45 (64 * b + s) = zI (wt b s)) ∧ (d 40 5 = nI n ∧ n ≤ 40 ∧ ∀ j, j < n → d 44 j = nI (T j) ∧ T j < 128) ∧ d 40 3 = se ∧ d 40 0 = bI cl
def fA (d d' : am_D) : Prop := ∀ a, 40 ≤ a → d' a = d a
def fM (d d' : am_D) : Prop := ∀ a, a < 40 ∨ 53 ≤ a → d' a = d a
theorem fA.rf {d : am_D} : fA d d := fun _ _ => rfl
theorem fM.rf {d : am_D} : fM d d := fun _ _ => rfl
theorem fA.tr {d d1 d2 : am_D} (h : fA d d1) (h2 : fA d1 d2) : fA d d2 := fun a ha => (h2 a ha).trans (h a ha)
theorem fM.tr {d d1 d2 : am_D} (h : fM d d1) (h2 : fM d1 d2) : fM d d2 := fun a ha => (h2 a ha).trans (h a ha)
theorem fA.u {d : am_D} {a j : Nat} {v : Int32} (h : a < 40) : fA d (am_u d a j v) := fun b hb => am_u_ne b (by omega)
theorem fM.u {d : am_D} {a j : Nat} {v : Int32} (h : 40 ≤ a ∧ a < 53) : fM d (am_u d a j v) := fun b hb => am_u_ne b (by omega)
theorem fA.t {d : am_D} {a k : Nat} {F : Nat → Int32} (h : a < 40) : fA d (am_tb d a k F) := fun b hb => am_tb_ne (by omega)
theorem fM.t {d : am_D} {a k : Nat} {F : Nat → Int32} (h : 40 ≤ a ∧ a < 53) : fM d (am_tb d a k F) := fun b hb => am_tb_ne (by omega)
theorem RA.M {cash esc pd pt ow : Nat → Int32} {res : Nat → Int} {wt : Nat → Nat → Int} {T : Nat → Nat} {n : Nat} {se : Int32} {cl : Bool} {d d' : am_D} (h : RM cash esc pd pt ow res wt T n se cl d) (hf : fA d d') : RM cash esc pd pt ow res wt T n se cl d' := by
  unfold RM at h ⊢
  rw [hf 40 (by decide), hf 41 (by decide), hf 42 (by decide), hf 43 (by decide), hf 44 (by decide), hf 45 (by decide), hf 46 (by decide), hf 51 (by decide), hf 52 (by decide)]
  exact h
theorem RM.A {cash esc pd pt ow : Nat → Int32} {res : Nat → Int} {wt : Nat → Nat → Int} {T : Nat → Nat} {n : Nat} {se : Int32} {cl : Bool} {d d' : am_D} (h : RA cash esc pd pt ow res wt T n se cl d) (hf : fM d d') : RA cash esc pd pt ow res wt T n se cl d' := by
  obtain ⟨h1, h2, h3, h4, h5, h6, h7, h8, h9, h10, h11⟩ := h
  refine ⟨?_, ?_, ?_, ?_, ?_, ?_, fun b hb => ⟨(h7 b hb).1, fun s hs => ?_⟩, h8.to ?_ ?_, ?_, ?_, ?_⟩
  · rw [hf 1 (by decide)]; exact h1
  · rw [hf 2 (by decide)]; exact h2
  · rw [hf 5 (by decide)]; exact h3
  · rw [hf 6 (by decide)]; exact h4
  · rw [hf 4 (by decide)]; exact h5
  · rw [hf 3 (by decide)]; exact h6
  · rw [hf (8 + b) (by omega)]; exact (h7 b hb).2 s hs
  · rw [hf 13 (by decide)]
  · exact hf 14 (by decide)
  · rw [hf 0 (by decide)]; exact h9
  · rw [hf 0 (by decide)]; exact h10
  · rw [hf 37 (by decide)]; exact h11
theorem upd_at {f : Nat → Int32} {k : Nat} {v : Int32} {d : am_D} {a N : Nat} (h : ∀ b, b < N → d a b = f b) : ∀ b, b < N → am_u d a k v a b = upd f k v b := fun b hb => by
  unfold am_u upd
  by_cases z : b = k
  · simp [z]
  · simp [z, h b hb]
theorem RA.cash {cash esc pd pt ow : Nat → Int32} {res : Nat → Int} {wt : Nat → Nat → Int} {T : Nat → Nat} {n : Nat} {se : Int32} {cl : Bool} {d : am_D} {k : Nat} {v : Int32} (h : RA cash esc pd pt ow res wt T n se cl d) : RA (upd cash k v) esc pd pt ow res wt T n se cl (am_u d 1 k v) := by
  obtain ⟨h1, h2, h3, h4, h5, h6, h7, h8, h9, h10, h11⟩ := h
  exact ⟨upd_at h1, fun b hb => by rw [am_u_ne 2 (by decide)]; exact h2 b hb, fun b hb => by rw [am_u_ne 5 (by decide)]; exact h3 b hb, fun b hb => by rw [am_u_ne 6 (by decide)]; exact h4 b hb, fun b hb => by rw [am_u_ne 4 (by decide)]; exact h5 b hb, fun b hb => by rw [am_u_ne 3 (by decide)]; exact h6 b hb, fun b hb => ⟨(h7 b hb).1, fun s hs => by rw [am_u_ne (8 + b) (by omega)]; exact (h7 b hb).2 s hs⟩, h8.to (by rw [am_u_ne 13 (by decide)]) (am_u_ne 14 (by decide)), by rw [am_u_ne 0 (by decide)]; exact h9, by rw [am_u_ne 0 (by decide)]; exact h10, fun s hs => by rw [am_u_ne 37 (by decide)]; exact h11 s hs⟩
theorem RA.esc {cash esc pd pt ow : Nat → Int32} {res : Nat → Int} {wt : Nat → Nat → Int} {T : Nat → Nat} {n : Nat} {se : Int32} {cl : Bool} {d : am_D} {k : Nat} {v : Int32} (h : RA cash esc pd pt ow res wt T n se cl d) : RA cash (upd esc k v) pd pt ow res wt T n se cl (am_u d 2 k v) := by
  obtain ⟨h1, h2, h3, h4, h5, h6, h7, h8, h9, h10, h11⟩ := h
  exact ⟨fun b hb => by rw [am_u_ne 1 (by decide)]; exact h1 b hb, upd_at h2, fun b hb => by rw [am_u_ne 5 (by decide)]; exact h3 b hb, fun b hb => by rw [am_u_ne 6 (by decide)]; exact h4 b hb, fun b hb => by rw [am_u_ne 4 (by decide)]; exact h5 b hb, fun b hb => by rw [am_u_ne 3 (by decide)]; exact h6 b hb, fun b hb => ⟨(h7 b hb).1, fun s hs => by rw [am_u_ne (8 + b) (by omega)]; exact (h7 b hb).2 s hs⟩, h8.to (by rw [am_u_ne 13 (by decide)]) (am_u_ne 14 (by decide)), by rw [am_u_ne 0 (by decide)]; exact h9, by rw [am_u_ne 0 (by decide)]; exact h10, fun s hs => by rw [am_u_ne 37 (by decide)]; exact h11 s hs⟩
theorem RA.pd {cash esc pd pt ow : Nat → Int32} {res : Nat → Int} {wt : Nat → Nat → Int} {T : Nat → Nat} {n : Nat} {se : Int32} {cl : Bool} {d : am_D} {k : Nat} {v : Int32} (h : RA cash esc pd pt ow res wt T n se cl d) : RA cash esc (upd pd k v) pt ow res wt T n se cl (am_u d 5 k v) := by
  obtain ⟨h1, h2, h3, h4, h5, h6, h7, h8, h9, h10, h11⟩ := h
  exact ⟨fun b hb => by rw [am_u_ne 1 (by decide)]; exact h1 b hb, fun b hb => by rw [am_u_ne 2 (by decide)]; exact h2 b hb, upd_at h3, fun b hb => by rw [am_u_ne 6 (by decide)]; exact h4 b hb, fun b hb => by rw [am_u_ne 4 (by decide)]; exact h5 b hb, fun b hb => by rw [am_u_ne 3 (by decide)]; exact h6 b hb, fun b hb => ⟨(h7 b hb).1, fun s hs => by rw [am_u_ne (8 + b) (by omega)]; exact (h7 b hb).2 s hs⟩, h8.to (by rw [am_u_ne 13 (by decide)]) (am_u_ne 14 (by decide)), by rw [am_u_ne 0 (by decide)]; exact h9, by rw [am_u_ne 0 (by decide)]; exact h10, fun s hs => by rw [am_u_ne 37 (by decide)]; exact h11 s hs⟩
theorem RA.pt {cash esc pd pt ow : Nat → Int32} {res : Nat → Int} {wt : Nat → Nat → Int} {T : Nat → Nat} {n : Nat} {se : Int32} {cl : Bool} {d : am_D} {k : Nat} {v : Int32} (h : RA cash esc pd pt ow res wt T n se cl d) : RA cash esc pd (upd pt k v) ow res wt T n se cl (am_u d 6 k v) := by
  obtain ⟨h1, h2, h3, h4, h5, h6, h7, h8, h9, h10, h11⟩ := h
  exact ⟨fun b hb => by rw [am_u_ne 1 (by decide)]; exact h1 b hb, fun b hb => by rw [am_u_ne 2 (by decide)]; exact h2 b hb, fun b hb => by rw [am_u_ne 5 (by decide)]; exact h3 b hb, upd_at h4, fun b hb => by rw [am_u_ne 4 (by decide)]; exact h5 b hb, fun b hb => by rw [am_u_ne 3 (by decide)]; exact h6 b hb, fun b hb => ⟨(h7 b hb).1, fun s hs => by rw [am_u_ne (8 + b) (by omega)]; exact (h7 b hb).2 s hs⟩, h8.to (by rw [am_u_ne 13 (by decide)]) (am_u_ne 14 (by decide)), by rw [am_u_ne 0 (by decide)]; exact h9, by rw [am_u_ne 0 (by decide)]; exact h10, fun s hs => by rw [am_u_ne 37 (by decide)]; exact h11 s hs⟩
theorem RA.se {cash esc pd pt ow : Nat → Int32} {res : Nat → Int} {wt : Nat → Nat → Int} {T : Nat → Nat} {n : Nat} {se : Int32} {cl : Bool} {d : am_D} {v : Int32} (h : RA cash esc pd pt ow res wt T n se cl d) : RA cash esc pd pt ow res wt T n v cl (am_u d 0 9 v) := by
  obtain ⟨h1, h2, h3, h4, h5, h6, h7, h8, h9, h10, h11⟩ := h
  exact ⟨fun b hb => by rw [am_u_ne 1 (by decide)]; exact h1 b hb, fun b hb => by rw [am_u_ne 2 (by decide)]; exact h2 b hb, fun b hb => by rw [am_u_ne 5 (by decide)]; exact h3 b hb, fun b hb => by rw [am_u_ne 6 (by decide)]; exact h4 b hb, fun b hb => by rw [am_u_ne 4 (by decide)]; exact h5 b hb, fun b hb => by rw [am_u_ne 3 (by decide)]; exact h6 b hb, fun b hb => ⟨(h7 b hb).1, fun s hs => by rw [am_u_ne (8 + b) (by omega)]; exact (h7 b hb).2 s hs⟩, h8.to (by rw [am_u_ne 13 (by decide)]) (am_u_ne 14 (by decide)), am_u_i, (am_u_o (by decide)).trans h10, fun s hs => by rw [am_u_ne 37 (by decide)]; exact h11 s hs⟩
theorem RA.cl {cash esc pd pt ow : Nat → Int32} {res : Nat → Int} {wt : Nat → Nat → Int} {T : Nat → Nat} {n : Nat} {se : Int32} {cl : Bool} {d : am_D} {c : Bool} (h : RA cash esc pd pt ow res wt T n se cl d) : RA cash esc pd pt ow res wt T n se c (am_u d 0 10 (bI c)) := by
  obtain ⟨h1, h2, h3, h4, h5, h6, h7, h8, h9, h10, h11⟩ := h
  exact ⟨fun b hb => by rw [am_u_ne 1 (by decide)]; exact h1 b hb, fun b hb => by rw [am_u_ne 2 (by decide)]; exact h2 b hb, fun b hb => by rw [am_u_ne 5 (by decide)]; exact h3 b hb, fun b hb => by rw [am_u_ne 6 (by decide)]; exact h4 b hb, fun b hb => by rw [am_u_ne 4 (by decide)]; exact h5 b hb, fun b hb => by rw [am_u_ne 3 (by decide)]; exact h6 b hb, fun b hb => ⟨(h7 b hb).1, fun s hs => by rw [am_u_ne (8 + b) (by omega)]; exact (h7 b hb).2 s hs⟩, h8.to (by rw [am_u_ne 13 (by decide)]) (am_u_ne 14 (by decide)), (am_u_o (by decide)).trans h9, am_u_i, fun s hs => by rw [am_u_ne 37 (by decide)]; exact h11 s hs⟩
theorem RA.res {cash esc pd pt ow : Nat → Int32} {res : Nat → Int} {wt : Nat → Nat → Int} {T : Nat → Nat} {n : Nat} {se : Int32} {cl : Bool} {d : am_D} {k : Nat} {v : Int} (hv : 0 ≤ v ∧ v ≤ 999) (h : RA cash esc pd pt ow res wt T n se cl d) : RA cash esc pd pt ow (fun j => if j = k then v else res j) wt T n se cl (am_u d 3 k (zI v)) := by
  obtain ⟨h1, h2, h3, h4, h5, h6, h7, h8, h9, h10, h11⟩ := h
  exact ⟨fun b hb => by rw [am_u_ne 1 (by decide)]; exact h1 b hb, fun b hb => by rw [am_u_ne 2 (by decide)]; exact h2 b hb, fun b hb => by rw [am_u_ne 5 (by decide)]; exact h3 b hb, fun b hb => by rw [am_u_ne 6 (by decide)]; exact h4 b hb, fun b hb => by rw [am_u_ne 4 (by decide)]; exact h5 b hb, fun j hj => by
    dsimp only
    by_cases z : j = k
    · subst z; rw [am_u_i, if_pos rfl]; exact ⟨rfl, hv⟩
    · rw [am_u_o (fun q => z q.2), if_neg z]; exact h6 j hj, fun b hb => ⟨(h7 b hb).1, fun s hs => by rw [am_u_ne (8 + b) (by omega)]; exact (h7 b hb).2 s hs⟩, h8.to (by rw [am_u_ne 13 (by decide)]) (am_u_ne 14 (by decide)), by rw [am_u_ne 0 (by decide)]; exact h9, by rw [am_u_ne 0 (by decide)]; exact h10, fun s hs => by rw [am_u_ne 37 (by decide)]; exact h11 s hs⟩
theorem RA.off {cash esc pd pt ow : Nat → Int32} {res : Nat → Int} {wt : Nat → Nat → Int} {T : Nat → Nat} {n : Nat} {se : Int32} {cl : Bool} {d d' : am_D} (h : RA cash esc pd pt ow res wt T n se cl d) (h0 : ∀ j, j = 9 ∨ j = 10 → d' 0 j = d 0 j) (h1 : ∀ a, a = 1 ∨ a = 2 ∨ a = 3 ∨ a = 4 ∨ a = 5 ∨ a = 6 ∨ (8 ≤ a ∧ a < 13) ∨ a = 14 ∨ a = 37 → d' a = d a) (h13 : d' 13 1 = d 13 1) : RA cash esc pd pt ow res wt T n se cl d' := by
  obtain ⟨g1, g2, g3, g4, g5, g6, g7, g8, g9, g10, g11⟩ := h
  refine ⟨?_, ?_, ?_, ?_, ?_, ?_, fun b hb => ⟨(g7 b hb).1, fun s hs => ?_⟩, g8.to h13 (h1 14 (by decide)), ?_, ?_, ?_⟩
  · rw [h1 1 (by decide)]; exact g1
  · rw [h1 2 (by decide)]; exact g2
  · rw [h1 5 (by decide)]; exact g3
  · rw [h1 6 (by decide)]; exact g4
  · rw [h1 4 (by decide)]; exact g5
  · rw [h1 3 (by decide)]; exact g6
  · rw [h1 (8 + b) (by omega)]; exact (g7 b hb).2 s hs
  · rw [h0 9 (by decide)]; exact g9
  · rw [h0 10 (by decide)]; exact g10
  · rw [h1 37 (by decide)]; exact g11
def updw (wt : Nat → Nat → Int) (k : Nat) (v : Nat → Int) : Nat → Nat → Int := fun b => if b = k then v else wt b
theorem RA.wt {cash esc pd pt ow : Nat → Int32} {res : Nat → Int} {wt : Nat → Nat → Int} {T : Nat → Nat} {n : Nat} {se : Int32} {cl : Bool} {d : am_D} {k : Nat} {v : Nat → Int} {F : Nat → Int32} (hk : k < 5) (hv : tb_ok v) (hF : ∀ s, s < 64 → F s = zI (v s)) (h : RA cash esc pd pt ow res wt T n se cl d) : RA cash esc pd pt ow res (updw wt k v) T n se cl (am_tb d (8 + k) 64 F) := by
  obtain ⟨g1, g2, g3, g4, g5, g6, g7, g8, g9, g10, g11⟩ := h
  refine ⟨?_, ?_, ?_, ?_, ?_, ?_, fun b hb => ?_, g8.to (by rw [am_tb_ne (by omega)]) (am_tb_ne (by omega)), ?_, ?_, ?_⟩
  · rw [am_tb_ne (by omega)]; exact g1
  · rw [am_tb_ne (by omega)]; exact g2
  · rw [am_tb_ne (by omega)]; exact g3
  · rw [am_tb_ne (by omega)]; exact g4
  · rw [am_tb_ne (by omega)]; exact g5
  · rw [am_tb_ne (by omega)]; exact g6
  · unfold updw
    by_cases z : b = k
    · subst z
      rw [if_pos rfl]
      exact ⟨hv, fun s hs => (am_tb_lt hs).trans (hF s hs)⟩
    · rw [if_neg z]
      exact ⟨(g7 b hb).1, fun s hs => by rw [am_tb_ne (by omega)]; exact (g7 b hb).2 s hs⟩
  · rw [am_tb_ne (by omega)]; exact g9
  · rw [am_tb_ne (by omega)]; exact g10
  · rw [am_tb_ne (by omega)]; exact g11
theorem RA.ow {cash esc pd pt ow : Nat → Int32} {res : Nat → Int} {wt : Nat → Nat → Int} {T : Nat → Nat} {n : Nat} {se : Int32} {cl : Bool} {d : am_D} {F : Nat → Int32} (h : RA cash esc pd pt ow res wt T n se cl d) : RA cash esc pd pt F res wt T n se cl (am_tb d 4 6 F) := by
  obtain ⟨g1, g2, g3, g4, g5, g6, g7, g8, g9, g10, g11⟩ := h
  refine ⟨?_, ?_, ?_, ?_, fun j hj => am_tb_lt hj, ?_, fun b hb => ⟨(g7 b hb).1, fun s hs => ?_⟩, g8.to (by rw [am_tb_ne (by omega)]) (am_tb_ne (by omega)), ?_, ?_, ?_⟩
  · rw [am_tb_ne (by omega)]; exact g1
  · rw [am_tb_ne (by omega)]; exact g2
  · rw [am_tb_ne (by omega)]; exact g3
  · rw [am_tb_ne (by omega)]; exact g4
  · rw [am_tb_ne (by omega)]; exact g6
  · rw [am_tb_ne (by omega)]; exact (g7 b hb).2 s hs
  · rw [am_tb_ne (by omega)]; exact g9
  · rw [am_tb_ne (by omega)]; exact g10
  · rw [am_tb_ne (by omega)]; exact g11
/-- an empty text; a text with one more code -/
theorem RA.n0 {cash esc pd pt ow : Nat → Int32} {res : Nat → Int} {wt : Nat → Nat → Int} {T : Nat → Nat} {n : Nat} {se : Int32} {cl : Bool} {d : am_D} (h : RA cash esc pd pt ow res wt T n se cl d) : RA cash esc pd pt ow res wt T 0 se cl (am_u d 13 1 0) := by
  obtain ⟨g1, g2, g3, g4, g5, g6, g7, g8, g9, g10, g11⟩ := h
  exact ⟨fun b hb => by rw [am_u_ne 1 (by decide)]; exact g1 b hb, fun b hb => by rw [am_u_ne 2 (by decide)]; exact g2 b hb, fun b hb => by rw [am_u_ne 5 (by decide)]; exact g3 b hb, fun b hb => by rw [am_u_ne 6 (by decide)]; exact g4 b hb, fun b hb => by rw [am_u_ne 4 (by decide)]; exact g5 b hb, fun b hb => by rw [am_u_ne 3 (by decide)]; exact g6 b hb, fun b hb => ⟨(g7 b hb).1, fun s hs => by rw [am_u_ne (8 + b) (by omega)]; exact (g7 b hb).2 s hs⟩, ⟨am_u_i, by decide, fun j hj => by omega⟩, by rw [am_u_ne 0 (by decide)]; exact g9, by rw [am_u_ne 0 (by decide)]; exact g10, fun s hs => by rw [am_u_ne 37 (by decide)]; exact g11 s hs⟩
theorem RA.n1 {cash esc pd pt ow : Nat → Int32} {res : Nat → Int} {wt : Nat → Nat → Int} {T : Nat → Nat} {n : Nat} {se : Int32} {cl : Bool} {d : am_D} {c : Nat} (hn : n < 40) (hc : c < 128) (h : RA cash esc pd pt ow res wt T n se cl d) : RA cash esc pd pt ow res wt (fun j => if j = n then c else T j) (n + 1) se cl (am_u (am_u d 14 n (nI c)) 13 1 (nI (n + 1))) := by
  obtain ⟨g1, g2, g3, g4, g5, g6, g7, g8, g9, g10, g11⟩ := h
  refine ⟨fun b hb => by rw [am_u_ne 1 (by decide), am_u_ne 1 (by decide)]; exact g1 b hb, fun b hb => by rw [am_u_ne 2 (by decide), am_u_ne 2 (by decide)]; exact g2 b hb, fun b hb => by rw [am_u_ne 5 (by decide), am_u_ne 5 (by decide)]; exact g3 b hb, fun b hb => by rw [am_u_ne 6 (by decide), am_u_ne 6 (by decide)]; exact g4 b hb, fun b hb => by rw [am_u_ne 4 (by decide), am_u_ne 4 (by decide)]; exact g5 b hb, fun b hb => by rw [am_u_ne 3 (by decide), am_u_ne 3 (by decide)]; exact g6 b hb, fun b hb => ⟨(g7 b hb).1, fun s hs => by rw [am_u_ne (8 + b) (by omega), am_u_ne (8 + b) (by omega)]; exact (g7 b hb).2 s hs⟩, ⟨am_u_i, by omega, fun j hj => ?_⟩, by rw [am_u_ne 0 (by decide), am_u_ne 0 (by decide)]; exact g9, by rw [am_u_ne 0 (by decide), am_u_ne 0 (by decide)]; exact g10, fun s hs => by rw [am_u_ne 37 (by decide), am_u_ne 37 (by decide)]; exact g11 s hs⟩
  rw [am_u_ne 14 (by decide)]
  dsimp only
  by_cases z : j = n
  · subst z; rw [am_u_i, if_pos rfl]; exact ⟨rfl, hc⟩
  · rw [am_u_o (fun q => z q.2), if_neg z]; exact g8.2.2 j (by omega)
end
section
abbrev isB (v : Int32) : Prop := 0 ≤ v ∧ v < 5
abbrev isI (v : Int32) : Prop := 0 ≤ v ∧ v < 6
theorem isB_of {v : Int32} (h : isB v) : ∃ b, b < 5 ∧ v = nI b := by
  obtain ⟨j, h1, h2⟩ := nI_of (Int32.not_lt.mpr h.1)
  refine ⟨j, ?_, h2⟩
  have := h.2
  rw [h2] at this
  exact (nI_ltI (b := 5) h1 (by decide)).mp this
theorem isI_of {v : Int32} (h : isI v) : ∃ b, b < 6 ∧ v = nI b := by
  obtain ⟨j, h1, h2⟩ := nI_of (Int32.not_lt.mpr h.1)
  refine ⟨j, ?_, h2⟩
  have := h.2
  rw [h2] at this
  exact (nI_ltI (b := 6) h1 (by decide)).mp this
def cN (v : Int32) : Nat := v.toNatClampNeg
theorem nI_cl {b : Nat} (h : b < 1000000) : cN (nI b) = b := nI_clamp (by omega)
theorem c_isB {l : Launch} {x : am_X} {e L : Nat} {d : am_D} (v : Int32) : cM l x e L m_A_isBidder [.int v] d (cR (some (.int (if isB v then 1 else 0))) d) := by
  refine am_Met.mono (c_A_isBidder v) ?_
  rintro r S' n' d' ⟨rfl, rfl, rfl, rfl⟩
  exact ⟨rfl, rfl, rfl, rfl⟩
theorem c_isI {l : Launch} {x : am_X} {e L : Nat} {d : am_D} (v : Int32) : cM l x e L m_A_isItem [.int v] d (cR (some (.int (if isI v then 1 else 0))) d) := by
  refine am_Met.mono (c_A_isItem v) ?_
  rintro r S' n' d' ⟨rfl, rfl, rfl, rfl⟩
  exact ⟨rfl, rfl, rfl, rfl⟩
abbrev fundOk (cash esc : Nat → Int32) (v m : Int32) : Prop := isB v ∧ 1 ≤ m ∧ m ≤ 100000 ∧ cash (cN v) + esc (cN v) + m ≤ 1000000
abbrev depOk (cash : Nat → Int32) (cl : Bool) (v m : Int32) : Prop := cl = false ∧ isB v ∧ 1 ≤ m ∧ m ≤ cash (cN v)
abbrev resOk (cl : Bool) (v m : Int32) : Prop := cl = false ∧ isI v ∧ 0 ≤ m ∧ m ≤ 999
abbrev opB (cl : Bool) (v : Int32) : Prop := cl = false ∧ isB v
abbrev clB (cl : Bool) (v : Int32) : Prop := cl = true ∧ isB v
abbrev clI (cl : Bool) (v : Int32) : Prop := cl = true ∧ isI v
abbrev woOk (v m : Int32) : Prop := isB v ∧ 0 ≤ m ∧ m < 64
set_option maxHeartbeats 4000000 in
theorem c_A_fund {l : Launch} {x : am_X} {e L : Nat} {d : am_D} {cash esc pd pt ow : Nat → Int32} {res : Nat → Int} {wt : Nat → Nat → Int} {T : Nat → Nat} {n : Nat} {se : Int32} {cl : Bool} (h : RA cash esc pd pt ow res wt T n se cl d) (v m : Int32) : cM l x (e + 1) L m_A_fund [.ref 0, .int v, .int m] d (fun r d' => r = some (.int (if fundOk cash esc v m then 1 else 0)) ∧ RA (if fundOk cash esc v m then upd cash (cN v) (cash (cN v) + m) else cash) esc pd pt ow res wt T n se cl d' ∧ fA d d') := by
  obtain ⟨h1, h2, h3, h4, h5, h6, h7, h8, h9, h10, h11⟩ := id h
  refine cM.go (by decide) (by simp [Value.category]) (Nat.le_of_ble_eq_true rfl) ?_
  refine am_go cd_A_fund hc_A_fund 0 1 (pc' := 1) (L' := [some (.ref 0), some (.int v), some (.int m)]) (st' := [.int v]) rfl ?_
  refine cW.callS1 4 [.int (if isB v then 1 else 0)] (st := []) [.int v] (am_at hc_A_fund 1 rfl) g_A_isBidder (Or.inl (tw 113 rfl rfl)) (tw 114 rfl rfl) rfl rfl (Nat.le_of_ble_eq_true rfl) (c_isB v) rfl rfl ?_
  by_cases hb : isB v
  · simp only [if_pos hb]
    refine am_if_eq 18 (am_at hc_A_fund 2 rfl) (by decide) (fun q1 => absurd q1 (by decide)) (fun q1 => ?_)
    refine am_go cd_A_fund hc_A_fund 3 2 (pc' := 9) (L' := [some (.ref 0), some (.int v), some (.int m)]) (st' := [.int 1, .int m]) rfl ?_
    refine am_icmp_lt 18 (am_at hc_A_fund 5 rfl) (by decide) (fun q2 => ?_) (fun q2 => ?_)
    · skip
      have hno : ¬ fundOk cash esc v m := fun z => Int32.not_lt.mpr z.2.1 q2
      simp only [if_neg hno]
      refine am_go cd_A_fund hc_A_fund 9 1 (pc' := 19) (L' := [some (.ref 0), some (.int v), some (.int m)]) (st' := [.int 0]) rfl ?_
      exact am_iret (am_at hc_A_fund 10 rfl) rfl rfl ⟨rfl, rfl, rfl, h, fA.rf⟩
    · skip
      refine am_go cd_A_fund hc_A_fund 6 1 (pc' := 13) (L' := [some (.ref 0), some (.int v), some (.int m)]) (st' := [.int m]) rfl ?_
      refine am_ldc 100000 (am_at hc_A_fund 7 rfl) (tw 116 rfl rfl) ?_
      refine am_icmp_le 20 (am_at hc_A_fund 8 rfl) (by decide) (fun q3 => ?_) (fun q3 => ?_)
      · skip
        obtain ⟨b, hb5, rfl⟩ := isB_of hb
        refine am_go cd_A_fund hc_A_fund 11 1 (pc' := 21) (L' := [some (.ref 0), some (.int (nI b)), some (.int m)]) (st' := [.ref 0]) rfl ?_
        refine am_getf 0 0 k_r0 (am_at hc_A_fund 12 rfl) rfl (by decide) rfl (by decide) k_ok0 (Or.inl (tw 75 rfl rfl)) rfl ?_
        refine am_go cd_A_fund hc_A_fund 13 1 (pc' := 25) (L' := [some (.ref 0), some (.int (nI b)), some (.int m)]) (st' := [.int (nI b), .ref 1]) rfl ?_
        refine am_iaload (b) (am_at hc_A_fund 14 rfl) rfl (Or.inl (by decide)) rfl (by show b < 5; omega) (Nat.le_of_ble_eq_true rfl) ?_
        rw [show d 1 b = cash b from h1 b hb5]
        refine am_go cd_A_fund hc_A_fund 15 1 (pc' := 27) (L' := [some (.ref 0), some (.int (nI b)), some (.int m)]) (st' := [.ref 0, .int (cash b)]) rfl ?_
        refine am_getf 0 1 k_r0 (am_at hc_A_fund 16 rfl) rfl (by decide) rfl (by decide) k_ok0 (Or.inl (tw 76 rfl rfl)) rfl ?_
        refine am_go cd_A_fund hc_A_fund 17 1 (pc' := 31) (L' := [some (.ref 0), some (.int (nI b)), some (.int m)]) (st' := [.int (nI b), .ref 2, .int (cash b)]) rfl ?_
        refine am_iaload (b) (am_at hc_A_fund 18 rfl) rfl (Or.inl (by decide)) rfl (by show b < 5; omega) (Nat.le_of_ble_eq_true rfl) ?_
        rw [show d 2 b = esc b from h2 b hb5]
        refine am_go cd_A_fund hc_A_fund 19 3 (pc' := 35) (L' := [some (.ref 0), some (.int (nI b)), some (.int m)]) (st' := [.int ((cash b + esc b) + m)]) rfl ?_
        refine am_ldc 1000000 (am_at hc_A_fund 22 rfl) (tw 117 rfl rfl) ?_
        refine am_icmp_le 42 (am_at hc_A_fund 23 rfl) (by decide) (fun q4 => ?_) (fun q4 => ?_)
        · have hok : fundOk cash esc (nI b) m := ⟨hb, Int32.not_lt.mp q2, q3, by rw [nI_cl (by omega)]; exact q4⟩
          simp only [if_pos hok, nI_cl (show b < 1000000 by omega)]
          refine am_go cd_A_fund hc_A_fund 26 1 (pc' := 43) (L' := [some (.ref 0), some (.int (nI b)), some (.int m)]) (st' := [.ref 0]) rfl ?_
          refine am_getf 0 0 k_r0 (am_at hc_A_fund 27 rfl) rfl (by decide) rfl (by decide) k_ok0 (Or.inl (tw 75 rfl rfl)) rfl ?_
          refine am_go cd_A_fund hc_A_fund 28 2 (pc' := 48) (L' := [some (.ref 0), some (.int (nI b)), some (.int m)]) (st' := [.int (nI b), .ref 1, .int (nI b), .ref 1]) rfl ?_
          refine am_iaload (b) (am_at hc_A_fund 30 rfl) rfl (Or.inl (by decide)) rfl (by show b < 5; omega) (Nat.le_of_ble_eq_true rfl) ?_
          rw [show d 1 b = cash b from h1 b hb5]
          refine am_go cd_A_fund hc_A_fund 31 2 (pc' := 51) (L' := [some (.ref 0), some (.int (nI b)), some (.int m)]) (st' := [.int (cash b + m), .int (nI b), .ref 1]) rfl ?_
          refine am_iastore (b) (am_at hc_A_fund 33 rfl) rfl (by decide) rfl (by show b < 5; omega) (Nat.le_of_ble_eq_true rfl) ?_
          refine am_go cd_A_fund hc_A_fund 34 1 (pc' := 53) (L' := [some (.ref 0), some (.int (nI b)), some (.int m)]) (st' := [.int 1]) rfl ?_
          exact am_iret (am_at hc_A_fund 35 rfl) rfl rfl ⟨rfl, rfl, rfl, h.cash, fA.u (by decide)⟩
        · skip
          have hno : ¬ fundOk cash esc (nI b) m := fun z => q4 (by have := z.2.2.2; rw [nI_cl (by omega)] at this; exact this)
          simp only [if_neg hno]
          refine am_go cd_A_fund hc_A_fund 24 1 (pc' := 41) (L' := [some (.ref 0), some (.int (nI b)), some (.int m)]) (st' := [.int 0]) rfl ?_
          exact am_iret (am_at hc_A_fund 25 rfl) rfl rfl ⟨rfl, rfl, rfl, h, fA.rf⟩
      · skip
        have hno : ¬ fundOk cash esc v m := fun z => q3 z.2.2.1
        simp only [if_neg hno]
        refine am_go cd_A_fund hc_A_fund 9 1 (pc' := 19) (L' := [some (.ref 0), some (.int v), some (.int m)]) (st' := [.int 0]) rfl ?_
        exact am_iret (am_at hc_A_fund 10 rfl) rfl rfl ⟨rfl, rfl, rfl, h, fA.rf⟩
  · simp only [if_neg hb]
    refine am_if_eq 18 (am_at hc_A_fund 2 rfl) (by decide) (fun q1 => ?_) (fun q1 => absurd rfl q1)
    have hno : ¬ fundOk cash esc v m := fun z => hb z.1
    simp only [if_neg hno]
    refine am_go cd_A_fund hc_A_fund 9 1 (pc' := 19) (L' := [some (.ref 0), some (.int v), some (.int m)]) (st' := [.int 0]) rfl ?_
    exact am_iret (am_at hc_A_fund 10 rfl) rfl rfl ⟨rfl, rfl, rfl, h, fA.rf⟩
set_option maxHeartbeats 4000000 in
theorem c_A_deposit {l : Launch} {x : am_X} {e L : Nat} {d : am_D} {cash esc pd pt ow : Nat → Int32} {res : Nat → Int} {wt : Nat → Nat → Int} {T : Nat → Nat} {n : Nat} {se : Int32} {cl : Bool} (h : RA cash esc pd pt ow res wt T n se cl d) (v m : Int32) : cM l x (e + 1) L m_A_deposit [.ref 0, .int v, .int m] d (fun r d' => r = some (.int (if depOk cash cl v m then 1 else 0)) ∧ RA (if depOk cash cl v m then upd cash (cN v) (cash (cN v) - m) else cash) (if depOk cash cl v m then upd esc (cN v) (esc (cN v) + m) else esc) pd pt ow res wt T n se cl d' ∧ fA d d') := by
  obtain ⟨h1, h2, h3, h4, h5, h6, h7, h8, h9, h10, h11⟩ := id h
  refine cM.go (by decide) (by simp [Value.category]) (Nat.le_of_ble_eq_true rfl) ?_
  refine am_go cd_A_deposit hc_A_deposit 0 1 (pc' := 1) (L' := [some (.ref 0), some (.int v), some (.int m)]) (st' := [.ref 0]) rfl ?_
  refine am_getf 0 10 k_r0 (am_at hc_A_deposit 1 rfl) rfl (by decide) rfl (by decide) k_ok0 (Or.inl (tw 85 rfl rfl)) (congrArg Value.int h10) ?_
  cases cl with
  | true =>
    simp only [bI_t]
    refine am_if_ne 29 (am_at hc_A_deposit 2 rfl) (by decide) (fun q0 => ?_) (fun q0 => absurd q0 (by decide))
    have hno : ¬ depOk cash true v m := fun z => by cases z.1
    simp only [if_neg hno]
    refine am_go cd_A_deposit hc_A_deposit 15 1 (pc' := 30) (L' := [some (.ref 0), some (.int v), some (.int m)]) (st' := [.int 0]) rfl ?_
    exact am_iret (am_at hc_A_deposit 16 rfl) rfl rfl ⟨rfl, rfl, rfl, h, fA.rf⟩
  | false =>
    simp only [bI_f]
    refine am_if_ne 29 (am_at hc_A_deposit 2 rfl) (by decide) (fun q0 => absurd rfl q0) (fun q0 => ?_)
    refine am_go cd_A_deposit hc_A_deposit 3 1 (pc' := 8) (L' := [some (.ref 0), some (.int v), some (.int m)]) (st' := [.int v]) rfl ?_
    refine cW.callS1 11 [.int (if isB v then 1 else 0)] (st := []) [.int v] (am_at hc_A_deposit 4 rfl) g_A_isBidder (Or.inl (tw 113 rfl rfl)) (tw 114 rfl rfl) rfl rfl (Nat.le_of_ble_eq_true rfl) (c_isB v) rfl rfl ?_
    by_cases hb : isB v
    · simp only [if_pos hb]
      refine am_if_eq 29 (am_at hc_A_deposit 5 rfl) (by decide) (fun q1 => absurd q1 (by decide)) (fun q1 => ?_)
      refine am_go cd_A_deposit hc_A_deposit 6 2 (pc' := 16) (L' := [some (.ref 0), some (.int v), some (.int m)]) (st' := [.int 1, .int m]) rfl ?_
      refine am_icmp_lt 29 (am_at hc_A_deposit 8 rfl) (by decide) (fun q2 => ?_) (fun q2 => ?_)
      · skip
        have hno : ¬ depOk cash false v m := fun z => Int32.not_lt.mpr z.2.2.1 q2
        simp only [if_neg hno]
        refine am_go cd_A_deposit hc_A_deposit 15 1 (pc' := 30) (L' := [some (.ref 0), some (.int v), some (.int m)]) (st' := [.int 0]) rfl ?_
        exact am_iret (am_at hc_A_deposit 16 rfl) rfl rfl ⟨rfl, rfl, rfl, h, fA.rf⟩
      · skip
        obtain ⟨b, hb5, rfl⟩ := isB_of hb
        refine am_go cd_A_deposit hc_A_deposit 9 1 (pc' := 20) (L' := [some (.ref 0), some (.int (nI b)), some (.int m)]) (st' := [.ref 0]) rfl ?_
        refine am_getf 0 0 k_r0 (am_at hc_A_deposit 10 rfl) rfl (by decide) rfl (by decide) k_ok0 (Or.inl (tw 75 rfl rfl)) rfl ?_
        refine am_go cd_A_deposit hc_A_deposit 11 1 (pc' := 24) (L' := [some (.ref 0), some (.int (nI b)), some (.int m)]) (st' := [.int (nI b), .ref 1]) rfl ?_
        refine am_iaload (b) (am_at hc_A_deposit 12 rfl) rfl (Or.inl (by decide)) rfl (by show b < 5; omega) (Nat.le_of_ble_eq_true rfl) ?_
        rw [show d 1 b = cash b from h1 b hb5]
        refine am_go cd_A_deposit hc_A_deposit 13 1 (pc' := 26) (L' := [some (.ref 0), some (.int (nI b)), some (.int m)]) (st' := [.int m, .int (cash b)]) rfl ?_
        refine am_icmp_ge 31 (am_at hc_A_deposit 14 rfl) (by decide) (fun q4 => ?_) (fun q4 => ?_)
        · have hok : depOk cash false (nI b) m := ⟨rfl, hb, Int32.not_lt.mp q2, by rw [nI_cl (by omega)]; exact q4⟩
          simp only [if_pos hok, nI_cl (show b < 1000000 by omega)]
          refine am_go cd_A_deposit hc_A_deposit 17 1 (pc' := 32) (L' := [some (.ref 0), some (.int (nI b)), some (.int m)]) (st' := [.ref 0]) rfl ?_
          refine am_getf 0 0 k_r0 (am_at hc_A_deposit 18 rfl) rfl (by decide) rfl (by decide) k_ok0 (Or.inl (tw 75 rfl rfl)) rfl ?_
          refine am_go cd_A_deposit hc_A_deposit 19 2 (pc' := 37) (L' := [some (.ref 0), some (.int (nI b)), some (.int m)]) (st' := [.int (nI b), .ref 1, .int (nI b), .ref 1]) rfl ?_
          refine am_iaload (b) (am_at hc_A_deposit 21 rfl) rfl (Or.inl (by decide)) rfl (by show b < 5; omega) (Nat.le_of_ble_eq_true rfl) ?_
          rw [show d 1 b = cash b from h1 b hb5]
          refine am_go cd_A_deposit hc_A_deposit 22 2 (pc' := 40) (L' := [some (.ref 0), some (.int (nI b)), some (.int m)]) (st' := [.int (cash b - m), .int (nI b), .ref 1]) rfl ?_
          refine am_iastore (b) (am_at hc_A_deposit 24 rfl) rfl (by decide) rfl (by show b < 5; omega) (Nat.le_of_ble_eq_true rfl) ?_
          refine am_go cd_A_deposit hc_A_deposit 25 1 (pc' := 42) (L' := [some (.ref 0), some (.int (nI b)), some (.int m)]) (st' := [.ref 0]) rfl ?_
          refine am_getf 0 1 k_r0 (am_at hc_A_deposit 26 rfl) rfl (by decide) rfl (by decide) k_ok0 (Or.inl (tw 76 rfl rfl)) rfl ?_
          refine am_go cd_A_deposit hc_A_deposit 27 2 (pc' := 47) (L' := [some (.ref 0), some (.int (nI b)), some (.int m)]) (st' := [.int (nI b), .ref 2, .int (nI b), .ref 2]) rfl ?_
          refine am_iaload (b) (am_at hc_A_deposit 29 rfl) rfl (Or.inl (by decide)) rfl (by show b < 5; omega) (Nat.le_of_ble_eq_true rfl) ?_
          rw [show am_u d 1 b (cash b - m) 2 b = esc b from (congrFun (am_u_ne 2 (by decide)) b).trans (h2 b hb5)]
          refine am_go cd_A_deposit hc_A_deposit 30 2 (pc' := 50) (L' := [some (.ref 0), some (.int (nI b)), some (.int m)]) (st' := [.int (esc b + m), .int (nI b), .ref 2]) rfl ?_
          refine am_iastore (b) (am_at hc_A_deposit 32 rfl) rfl (by decide) rfl (by show b < 5; omega) (Nat.le_of_ble_eq_true rfl) ?_
          refine am_go cd_A_deposit hc_A_deposit 33 1 (pc' := 52) (L' := [some (.ref 0), some (.int (nI b)), some (.int m)]) (st' := [.int 1]) rfl ?_
          exact am_iret (am_at hc_A_deposit 34 rfl) rfl rfl ⟨rfl, rfl, rfl, h.cash.esc, (fA.u (by decide)).tr (fA.u (by decide))⟩
        · skip
          have hno : ¬ depOk cash false (nI b) m := fun z => q4 (by have := z.2.2.2; rw [nI_cl (by omega)] at this; exact this)
          simp only [if_neg hno]
          refine am_go cd_A_deposit hc_A_deposit 15 1 (pc' := 30) (L' := [some (.ref 0), some (.int (nI b)), some (.int m)]) (st' := [.int 0]) rfl ?_
          exact am_iret (am_at hc_A_deposit 16 rfl) rfl rfl ⟨rfl, rfl, rfl, h, fA.rf⟩
    · simp only [if_neg hb]
      refine am_if_eq 29 (am_at hc_A_deposit 5 rfl) (by decide) (fun q1 => ?_) (fun q1 => absurd rfl q1)
      have hno : ¬ depOk cash false v m := fun z => hb z.2.1
      simp only [if_neg hno]
      refine am_go cd_A_deposit hc_A_deposit 15 1 (pc' := 30) (L' := [some (.ref 0), some (.int v), some (.int m)]) (st' := [.int 0]) rfl ?_
      exact am_iret (am_at hc_A_deposit 16 rfl) rfl rfl ⟨rfl, rfl, rfl, h, fA.rf⟩
set_option maxHeartbeats 4000000 in
theorem c_A_reserve {l : Launch} {x : am_X} {e L : Nat} {d : am_D} {cash esc pd pt ow : Nat → Int32} {res : Nat → Int} {wt : Nat → Nat → Int} {T : Nat → Nat} {n : Nat} {se : Int32} {cl : Bool} (h : RA cash esc pd pt ow res wt T n se cl d) (v m : Int32) : cM l x (e + 1) L m_A_reserve [.ref 0, .int v, .int m] d (fun r d' => r = some (.int (if resOk cl v m then 1 else 0)) ∧ RA cash esc pd pt ow (if resOk cl v m then (fun j => if j = cN v then m.toInt else res j) else res) wt T n se cl d' ∧ fA d d') := by
  obtain ⟨h1, h2, h3, h4, h5, h6, h7, h8, h9, h10, h11⟩ := id h
  refine cM.go (by decide) (by simp [Value.category]) (Nat.le_of_ble_eq_true rfl) ?_
  refine am_go cd_A_reserve hc_A_reserve 0 1 (pc' := 1) (L' := [some (.ref 0), some (.int v), some (.int m)]) (st' := [.ref 0]) rfl ?_
  refine am_getf 0 10 k_r0 (am_at hc_A_reserve 1 rfl) rfl (by decide) rfl (by decide) k_ok0 (Or.inl (tw 85 rfl rfl)) (congrArg Value.int h10) ?_
  cases cl with
  | true =>
    simp only [bI_t]
    refine am_if_ne 25 (am_at hc_A_reserve 2 rfl) (by decide) (fun q0 => ?_) (fun q0 => absurd q0 (by decide))
    have hno : ¬ resOk true v m := fun z => by cases z.1
    simp only [if_neg hno]
    refine am_go cd_A_reserve hc_A_reserve 11 1 (pc' := 26) (L' := [some (.ref 0), some (.int v), some (.int m)]) (st' := [.int 0]) rfl ?_
    exact am_iret (am_at hc_A_reserve 12 rfl) rfl rfl ⟨rfl, rfl, rfl, h, fA.rf⟩
  | false =>
    simp only [bI_f]
    refine am_if_ne 25 (am_at hc_A_reserve 2 rfl) (by decide) (fun q0 => absurd rfl q0) (fun q0 => ?_)
    refine am_go cd_A_reserve hc_A_reserve 3 1 (pc' := 8) (L' := [some (.ref 0), some (.int v), some (.int m)]) (st' := [.int v]) rfl ?_
    refine cW.callS1 11 [.int (if isI v then 1 else 0)] (st := []) [.int v] (am_at hc_A_reserve 4 rfl) g_A_isItem (Or.inl (tw 141 rfl rfl)) (tw 142 rfl rfl) rfl rfl (Nat.le_of_ble_eq_true rfl) (c_isI v) rfl rfl ?_
    by_cases hb : isI v
    · simp only [if_pos hb]
      refine am_if_eq 25 (am_at hc_A_reserve 5 rfl) (by decide) (fun q1 => absurd q1 (by decide)) (fun q1 => ?_)
      refine am_go cd_A_reserve hc_A_reserve 6 1 (pc' := 15) (L' := [some (.ref 0), some (.int v), some (.int m)]) (st' := [.int m]) rfl ?_
      refine am_if_lt 25 (am_at hc_A_reserve 7 rfl) (by decide) (fun q2 => ?_) (fun q2 => ?_)
      · skip
        have hno : ¬ resOk false v m := fun z => Int32.not_lt.mpr z.2.2.1 q2
        simp only [if_neg hno]
        refine am_go cd_A_reserve hc_A_reserve 11 1 (pc' := 26) (L' := [some (.ref 0), some (.int v), some (.int m)]) (st' := [.int 0]) rfl ?_
        exact am_iret (am_at hc_A_reserve 12 rfl) rfl rfl ⟨rfl, rfl, rfl, h, fA.rf⟩
      · skip
        refine am_go cd_A_reserve hc_A_reserve 8 2 (pc' := 22) (L' := [some (.ref 0), some (.int v), some (.int m)]) (st' := [.int 999, .int m]) rfl ?_
        refine am_icmp_le 27 (am_at hc_A_reserve 10 rfl) (by decide) (fun q4 => ?_) (fun q4 => ?_)
        · have hok : resOk false v m := ⟨rfl, hb, Int32.not_lt.mp q2, q4⟩
          simp only [if_pos hok]
          obtain ⟨b, hb5, rfl⟩ := isI_of hb
          simp only [nI_cl (show b < 1000000 by omega)]
          have hm : m = zI m.toInt := zI_of m
          have hm0 : 0 ≤ m.toInt := by have := Int32.le_iff_toInt_le.mp hok.2.2.1; simpa using this
          have hm9 : m.toInt ≤ 999 := by have := Int32.le_iff_toInt_le.mp hok.2.2.2; exact this
          refine am_go cd_A_reserve hc_A_reserve 13 1 (pc' := 28) (L' := [some (.ref 0), some (.int (nI b)), some (.int m)]) (st' := [.ref 0]) rfl ?_
          refine am_getf 0 2 k_r0 (am_at hc_A_reserve 14 rfl) rfl (by decide) rfl (by decide) k_ok0 (Or.inl (tw 77 rfl rfl)) rfl ?_
          refine am_go cd_A_reserve hc_A_reserve 15 2 (pc' := 33) (L' := [some (.ref 0), some (.int (nI b)), some (.int m)]) (st' := [.int m, .int (nI b), .ref 3]) rfl ?_
          refine am_iastore (b) (am_at hc_A_reserve 17 rfl) rfl (by decide) rfl (by show b < 6; omega) (Nat.le_of_ble_eq_true rfl) ?_
          refine am_go cd_A_reserve hc_A_reserve 18 1 (pc' := 35) (L' := [some (.ref 0), some (.int (nI b)), some (.int m)]) (st' := [.int 1]) rfl ?_
          refine am_iret (am_at hc_A_reserve 19 rfl) rfl rfl ⟨rfl, rfl, rfl, ?_, fA.u (by decide)⟩
          have hh := h.res (k := b) (v := m.toInt) ⟨hm0, hm9⟩
          rw [← hm] at hh
          exact hh
        · skip
          have hno : ¬ resOk false v m := fun z => q4 z.2.2.2
          simp only [if_neg hno]
          refine am_go cd_A_reserve hc_A_reserve 11 1 (pc' := 26) (L' := [some (.ref 0), some (.int v), some (.int m)]) (st' := [.int 0]) rfl ?_
          exact am_iret (am_at hc_A_reserve 12 rfl) rfl rfl ⟨rfl, rfl, rfl, h, fA.rf⟩
    · simp only [if_neg hb]
      refine am_if_eq 25 (am_at hc_A_reserve 5 rfl) (by decide) (fun q1 => ?_) (fun q1 => absurd rfl q1)
      have hno : ¬ resOk false v m := fun z => hb z.2.1
      simp only [if_neg hno]
      refine am_go cd_A_reserve hc_A_reserve 11 1 (pc' := 26) (L' := [some (.ref 0), some (.int v), some (.int m)]) (st' := [.int 0]) rfl ?_
      exact am_iret (am_at hc_A_reserve 12 rfl) rfl rfl ⟨rfl, rfl, rfl, h, fA.rf⟩
set_option maxHeartbeats 4000000 in
theorem c_A_cash {l : Launch} {x : am_X} {e L : Nat} {d : am_D} {cash esc pd pt ow : Nat → Int32} {res : Nat → Int} {wt : Nat → Nat → Int} {T : Nat → Nat} {n : Nat} {se : Int32} {cl : Bool} (h : RA cash esc pd pt ow res wt T n se cl d) (v : Int32) : cM l x (e + 1) L m_A_cash [.ref 0, .int v] d (fun r d' => r = some (.int (if isB v then cash (cN v) else -2)) ∧ RA cash esc pd pt ow res wt T n se cl d' ∧ fA d d') := by
  obtain ⟨h1, h2, h3, h4, h5, h6, h7, h8, h9, h10, h11⟩ := id h
  refine cM.go (by decide) (by simp [Value.category]) (Nat.le_of_ble_eq_true rfl) ?_
  refine am_go cd_A_cash hc_A_cash 0 1 (pc' := 1) (L' := [some (.ref 0), some (.int v)]) (st' := [.int v]) rfl ?_
  refine cW.callS1 4 [.int (if isB v then 1 else 0)] (st := []) [.int v] (am_at hc_A_cash 1 rfl) g_A_isBidder (Or.inl (tw 113 rfl rfl)) (tw 114 rfl rfl) rfl rfl (Nat.le_of_ble_eq_true rfl) (c_isB v) rfl rfl ?_
  by_cases hb : isB v
  · simp only [if_pos hb]
    refine am_if_eq 16 (am_at hc_A_cash 2 rfl) (by decide) (fun q1 => absurd q1 (by decide)) (fun q1 => ?_)
    obtain ⟨b, hb5, rfl⟩ := isB_of hb
    simp only [nI_cl (show b < 1000000 by omega)]
    refine am_go cd_A_cash hc_A_cash 3 1 (pc' := 8) (L' := [some (.ref 0), some (.int (nI b))]) (st' := [.ref 0]) rfl ?_
    refine am_getf 0 0 k_r0 (am_at hc_A_cash 4 rfl) rfl (by decide) rfl (by decide) k_ok0 (Or.inl (tw 75 rfl rfl)) rfl ?_
    refine am_go cd_A_cash hc_A_cash 5 1 (pc' := 12) (L' := [some (.ref 0), some (.int (nI b))]) (st' := [.int (nI b), .ref 1]) rfl ?_
    refine am_iaload (b) (am_at hc_A_cash 6 rfl) rfl (Or.inl (by decide)) rfl (by show b < 5; omega) (Nat.le_of_ble_eq_true rfl) ?_
    rw [show d 1 b = cash b from h1 b hb5]
    refine am_go cd_A_cash hc_A_cash 7 1 (pc' := 18) (L' := [some (.ref 0), some (.int (nI b))]) (st' := [.int (cash b)]) rfl ?_
    exact am_iret (am_at hc_A_cash 9 rfl) rfl rfl ⟨rfl, rfl, rfl, h, fA.rf⟩
  · simp only [if_neg hb]
    refine am_if_eq 16 (am_at hc_A_cash 2 rfl) (by decide) (fun q1 => ?_) (fun q1 => absurd rfl q1)
    refine am_go cd_A_cash hc_A_cash 8 1 (pc' := 18) (L' := [some (.ref 0), some (.int v)]) (st' := [.int (-2)]) rfl ?_
    exact am_iret (am_at hc_A_cash 9 rfl) rfl rfl ⟨rfl, rfl, rfl, h, fA.rf⟩
set_option maxHeartbeats 4000000 in
theorem c_A_escrow {l : Launch} {x : am_X} {e L : Nat} {d : am_D} {cash esc pd pt ow : Nat → Int32} {res : Nat → Int} {wt : Nat → Nat → Int} {T : Nat → Nat} {n : Nat} {se : Int32} {cl : Bool} (h : RA cash esc pd pt ow res wt T n se cl d) (v : Int32) : cM l x (e + 1) L m_A_escrow [.ref 0, .int v] d (fun r d' => r = some (.int (if isB v then esc (cN v) else -2)) ∧ RA cash esc pd pt ow res wt T n se cl d' ∧ fA d d') := by
  obtain ⟨h1, h2, h3, h4, h5, h6, h7, h8, h9, h10, h11⟩ := id h
  refine cM.go (by decide) (by simp [Value.category]) (Nat.le_of_ble_eq_true rfl) ?_
  refine am_go cd_A_escrow hc_A_escrow 0 1 (pc' := 1) (L' := [some (.ref 0), some (.int v)]) (st' := [.int v]) rfl ?_
  refine cW.callS1 4 [.int (if isB v then 1 else 0)] (st := []) [.int v] (am_at hc_A_escrow 1 rfl) g_A_isBidder (Or.inl (tw 113 rfl rfl)) (tw 114 rfl rfl) rfl rfl (Nat.le_of_ble_eq_true rfl) (c_isB v) rfl rfl ?_
  by_cases hb : isB v
  · simp only [if_pos hb]
    refine am_if_eq 16 (am_at hc_A_escrow 2 rfl) (by decide) (fun q1 => absurd q1 (by decide)) (fun q1 => ?_)
    obtain ⟨b, hb5, rfl⟩ := isB_of hb
    simp only [nI_cl (show b < 1000000 by omega)]
    refine am_go cd_A_escrow hc_A_escrow 3 1 (pc' := 8) (L' := [some (.ref 0), some (.int (nI b))]) (st' := [.ref 0]) rfl ?_
    refine am_getf 0 1 k_r0 (am_at hc_A_escrow 4 rfl) rfl (by decide) rfl (by decide) k_ok0 (Or.inl (tw 76 rfl rfl)) rfl ?_
    refine am_go cd_A_escrow hc_A_escrow 5 1 (pc' := 12) (L' := [some (.ref 0), some (.int (nI b))]) (st' := [.int (nI b), .ref 2]) rfl ?_
    refine am_iaload (b) (am_at hc_A_escrow 6 rfl) rfl (Or.inl (by decide)) rfl (by show b < 5; omega) (Nat.le_of_ble_eq_true rfl) ?_
    rw [show d 2 b = esc b from h2 b hb5]
    refine am_go cd_A_escrow hc_A_escrow 7 1 (pc' := 18) (L' := [some (.ref 0), some (.int (nI b))]) (st' := [.int (esc b)]) rfl ?_
    exact am_iret (am_at hc_A_escrow 9 rfl) rfl rfl ⟨rfl, rfl, rfl, h, fA.rf⟩
  · simp only [if_neg hb]
    refine am_if_eq 16 (am_at hc_A_escrow 2 rfl) (by decide) (fun q1 => ?_) (fun q1 => absurd rfl q1)
    refine am_go cd_A_escrow hc_A_escrow 8 1 (pc' := 18) (L' := [some (.ref 0), some (.int v)]) (st' := [.int (-2)]) rfl ?_
    exact am_iret (am_at hc_A_escrow 9 rfl) rfl rfl ⟨rfl, rfl, rfl, h, fA.rf⟩
set_option maxHeartbeats 4000000 in
theorem c_A_parts {l : Launch} {x : am_X} {e L : Nat} {d : am_D} {cash esc pd pt ow : Nat → Int32} {res : Nat → Int} {wt : Nat → Nat → Int} {T : Nat → Nat} {n : Nat} {se : Int32} {cl : Bool} (h : RA cash esc pd pt ow res wt T n se cl d) (v : Int32) : cM l x (e + 1) L m_A_parts [.ref 0, .int v] d (fun r d' => r = some (.int (if isB v then pt (cN v) else -2)) ∧ RA cash esc pd pt ow res wt T n se cl d' ∧ fA d d') := by
  obtain ⟨h1, h2, h3, h4, h5, h6, h7, h8, h9, h10, h11⟩ := id h
  refine cM.go (by decide) (by simp [Value.category]) (Nat.le_of_ble_eq_true rfl) ?_
  refine am_go cd_A_parts hc_A_parts 0 1 (pc' := 1) (L' := [some (.ref 0), some (.int v)]) (st' := [.int v]) rfl ?_
  refine cW.callS1 4 [.int (if isB v then 1 else 0)] (st := []) [.int v] (am_at hc_A_parts 1 rfl) g_A_isBidder (Or.inl (tw 113 rfl rfl)) (tw 114 rfl rfl) rfl rfl (Nat.le_of_ble_eq_true rfl) (c_isB v) rfl rfl ?_
  by_cases hb : isB v
  · simp only [if_pos hb]
    refine am_if_eq 16 (am_at hc_A_parts 2 rfl) (by decide) (fun q1 => absurd q1 (by decide)) (fun q1 => ?_)
    obtain ⟨b, hb5, rfl⟩ := isB_of hb
    simp only [nI_cl (show b < 1000000 by omega)]
    refine am_go cd_A_parts hc_A_parts 3 1 (pc' := 8) (L' := [some (.ref 0), some (.int (nI b))]) (st' := [.ref 0]) rfl ?_
    refine am_getf 0 5 k_r0 (am_at hc_A_parts 4 rfl) rfl (by decide) rfl (by decide) k_ok0 (Or.inl (tw 80 rfl rfl)) rfl ?_
    refine am_go cd_A_parts hc_A_parts 5 1 (pc' := 12) (L' := [some (.ref 0), some (.int (nI b))]) (st' := [.int (nI b), .ref 6]) rfl ?_
    refine am_iaload (b) (am_at hc_A_parts 6 rfl) rfl (Or.inl (by decide)) rfl (by show b < 5; omega) (Nat.le_of_ble_eq_true rfl) ?_
    rw [show d 6 b = pt b from h4 b hb5]
    refine am_go cd_A_parts hc_A_parts 7 1 (pc' := 18) (L' := [some (.ref 0), some (.int (nI b))]) (st' := [.int (pt b)]) rfl ?_
    exact am_iret (am_at hc_A_parts 9 rfl) rfl rfl ⟨rfl, rfl, rfl, h, fA.rf⟩
  · simp only [if_neg hb]
    refine am_if_eq 16 (am_at hc_A_parts 2 rfl) (by decide) (fun q1 => ?_) (fun q1 => absurd rfl q1)
    refine am_go cd_A_parts hc_A_parts 8 1 (pc' := 18) (L' := [some (.ref 0), some (.int v)]) (st' := [.int (-2)]) rfl ?_
    exact am_iret (am_at hc_A_parts 9 rfl) rfl rfl ⟨rfl, rfl, rfl, h, fA.rf⟩
set_option maxHeartbeats 4000000 in
theorem c_A_paid {l : Launch} {x : am_X} {e L : Nat} {d : am_D} {cash esc pd pt ow : Nat → Int32} {res : Nat → Int} {wt : Nat → Nat → Int} {T : Nat → Nat} {n : Nat} {se : Int32} {cl : Bool} (h : RA cash esc pd pt ow res wt T n se cl d) (v : Int32) : cM l x (e + 1) L m_A_paid [.ref 0, .int v] d (fun r d' => r = some (.int (if clB cl v then pd (cN v) else -2)) ∧ RA cash esc pd pt ow res wt T n se cl d' ∧ fA d d') := by
  obtain ⟨h1, h2, h3, h4, h5, h6, h7, h8, h9, h10, h11⟩ := id h
  refine cM.go (by decide) (by simp [Value.category]) (Nat.le_of_ble_eq_true rfl) ?_
  refine am_go cd_A_paid hc_A_paid 0 1 (pc' := 1) (L' := [some (.ref 0), some (.int v)]) (st' := [.ref 0]) rfl ?_
  refine am_getf 0 10 k_r0 (am_at hc_A_paid 1 rfl) rfl (by decide) rfl (by decide) k_ok0 (Or.inl (tw 85 rfl rfl)) (congrArg Value.int h10) ?_
  cases cl with
  | false =>
    simp only [bI_f]
    refine am_if_eq 23 (am_at hc_A_paid 2 rfl) (by decide) (fun q0 => ?_) (fun q0 => absurd rfl q0)
    have hno : ¬ clB false v := fun z => by cases z.1
    simp only [if_neg hno]
    refine am_go cd_A_paid hc_A_paid 11 1 (pc' := 25) (L' := [some (.ref 0), some (.int v)]) (st' := [.int (-2)]) rfl ?_
    exact am_iret (am_at hc_A_paid 12 rfl) rfl rfl ⟨rfl, rfl, rfl, h, fA.rf⟩
  | true =>
    simp only [bI_t]
    refine am_if_eq 23 (am_at hc_A_paid 2 rfl) (by decide) (fun q0 => absurd q0 (by decide)) (fun q0 => ?_)
    refine am_go cd_A_paid hc_A_paid 3 1 (pc' := 8) (L' := [some (.ref 0), some (.int v)]) (st' := [.int v]) rfl ?_
    refine cW.callS1 11 [.int (if isB v then 1 else 0)] (st := []) [.int v] (am_at hc_A_paid 4 rfl) g_A_isBidder (Or.inl (tw 113 rfl rfl)) (tw 114 rfl rfl) rfl rfl (Nat.le_of_ble_eq_true rfl) (c_isB v) rfl rfl ?_
    by_cases hb : isB v
    · simp only [if_pos hb]
      refine am_if_eq 23 (am_at hc_A_paid 5 rfl) (by decide) (fun q1 => absurd q1 (by decide)) (fun q1 => ?_)
      have hok : clB true v := ⟨rfl, hb⟩
      simp only [if_pos hok]
      obtain ⟨b, hb5, rfl⟩ := isB_of hb
      simp only [nI_cl (show b < 1000000 by omega)]
      refine am_go cd_A_paid hc_A_paid 6 1 (pc' := 15) (L' := [some (.ref 0), some (.int (nI b))]) (st' := [.ref 0]) rfl ?_
      refine am_getf 0 4 k_r0 (am_at hc_A_paid 7 rfl) rfl (by decide) rfl (by decide) k_ok0 (Or.inl (tw 79 rfl rfl)) rfl ?_
      refine am_go cd_A_paid hc_A_paid 8 1 (pc' := 19) (L' := [some (.ref 0), some (.int (nI b))]) (st' := [.int (nI b), .ref 5]) rfl ?_
      refine am_iaload (b) (am_at hc_A_paid 9 rfl) rfl (Or.inl (by decide)) rfl (by show b < 5; omega) (Nat.le_of_ble_eq_true rfl) ?_
      rw [show d 5 b = pd b from h3 b hb5]
      refine am_go cd_A_paid hc_A_paid 10 1 (pc' := 25) (L' := [some (.ref 0), some (.int (nI b))]) (st' := [.int (pd b)]) rfl ?_
      exact am_iret (am_at hc_A_paid 12 rfl) rfl rfl ⟨rfl, rfl, rfl, h, fA.rf⟩
    · simp only [if_neg hb]
      refine am_if_eq 23 (am_at hc_A_paid 5 rfl) (by decide) (fun q1 => ?_) (fun q1 => absurd rfl q1)
      have hno : ¬ clB true v := fun z => hb z.2
      simp only [if_neg hno]
      refine am_go cd_A_paid hc_A_paid 11 1 (pc' := 25) (L' := [some (.ref 0), some (.int v)]) (st' := [.int (-2)]) rfl ?_
      exact am_iret (am_at hc_A_paid 12 rfl) rfl rfl ⟨rfl, rfl, rfl, h, fA.rf⟩
set_option maxHeartbeats 4000000 in
theorem c_A_owner {l : Launch} {x : am_X} {e L : Nat} {d : am_D} {cash esc pd pt ow : Nat → Int32} {res : Nat → Int} {wt : Nat → Nat → Int} {T : Nat → Nat} {n : Nat} {se : Int32} {cl : Bool} (h : RA cash esc pd pt ow res wt T n se cl d) (v : Int32) : cM l x (e + 1) L m_A_owner [.ref 0, .int v] d (fun r d' => r = some (.int (if clI cl v then ow (cN v) else -2)) ∧ RA cash esc pd pt ow res wt T n se cl d' ∧ fA d d') := by
  obtain ⟨h1, h2, h3, h4, h5, h6, h7, h8, h9, h10, h11⟩ := id h
  refine cM.go (by decide) (by simp [Value.category]) (Nat.le_of_ble_eq_true rfl) ?_
  refine am_go cd_A_owner hc_A_owner 0 1 (pc' := 1) (L' := [some (.ref 0), some (.int v)]) (st' := [.ref 0]) rfl ?_
  refine am_getf 0 10 k_r0 (am_at hc_A_owner 1 rfl) rfl (by decide) rfl (by decide) k_ok0 (Or.inl (tw 85 rfl rfl)) (congrArg Value.int h10) ?_
  cases cl with
  | false =>
    simp only [bI_f]
    refine am_if_eq 23 (am_at hc_A_owner 2 rfl) (by decide) (fun q0 => ?_) (fun q0 => absurd rfl q0)
    have hno : ¬ clI false v := fun z => by cases z.1
    simp only [if_neg hno]
    refine am_go cd_A_owner hc_A_owner 11 1 (pc' := 25) (L' := [some (.ref 0), some (.int v)]) (st' := [.int (-2)]) rfl ?_
    exact am_iret (am_at hc_A_owner 12 rfl) rfl rfl ⟨rfl, rfl, rfl, h, fA.rf⟩
  | true =>
    simp only [bI_t]
    refine am_if_eq 23 (am_at hc_A_owner 2 rfl) (by decide) (fun q0 => absurd q0 (by decide)) (fun q0 => ?_)
    refine am_go cd_A_owner hc_A_owner 3 1 (pc' := 8) (L' := [some (.ref 0), some (.int v)]) (st' := [.int v]) rfl ?_
    refine cW.callS1 11 [.int (if isI v then 1 else 0)] (st := []) [.int v] (am_at hc_A_owner 4 rfl) g_A_isItem (Or.inl (tw 141 rfl rfl)) (tw 142 rfl rfl) rfl rfl (Nat.le_of_ble_eq_true rfl) (c_isI v) rfl rfl ?_
    by_cases hb : isI v
    · simp only [if_pos hb]
      refine am_if_eq 23 (am_at hc_A_owner 5 rfl) (by decide) (fun q1 => absurd q1 (by decide)) (fun q1 => ?_)
      have hok : clI true v := ⟨rfl, hb⟩
      simp only [if_pos hok]
      obtain ⟨b, hb5, rfl⟩ := isI_of hb
      simp only [nI_cl (show b < 1000000 by omega)]
      refine am_go cd_A_owner hc_A_owner 6 1 (pc' := 15) (L' := [some (.ref 0), some (.int (nI b))]) (st' := [.ref 0]) rfl ?_
      refine am_getf 0 3 k_r0 (am_at hc_A_owner 7 rfl) rfl (by decide) rfl (by decide) k_ok0 (Or.inl (tw 78 rfl rfl)) rfl ?_
      refine am_go cd_A_owner hc_A_owner 8 1 (pc' := 19) (L' := [some (.ref 0), some (.int (nI b))]) (st' := [.int (nI b), .ref 4]) rfl ?_
      refine am_iaload (b) (am_at hc_A_owner 9 rfl) rfl (Or.inl (by decide)) rfl (by show b < 6; omega) (Nat.le_of_ble_eq_true rfl) ?_
      rw [show d 4 b = ow b from h5 b hb5]
      refine am_go cd_A_owner hc_A_owner 10 1 (pc' := 25) (L' := [some (.ref 0), some (.int (nI b))]) (st' := [.int (ow b)]) rfl ?_
      exact am_iret (am_at hc_A_owner 12 rfl) rfl rfl ⟨rfl, rfl, rfl, h, fA.rf⟩
    · simp only [if_neg hb]
      refine am_if_eq 23 (am_at hc_A_owner 5 rfl) (by decide) (fun q1 => ?_) (fun q1 => absurd rfl q1)
      have hno : ¬ clI true v := fun z => hb z.2
      simp only [if_neg hno]
      refine am_go cd_A_owner hc_A_owner 11 1 (pc' := 25) (L' := [some (.ref 0), some (.int v)]) (st' := [.int (-2)]) rfl ?_
      exact am_iret (am_at hc_A_owner 12 rfl) rfl rfl ⟨rfl, rfl, rfl, h, fA.rf⟩
set_option maxHeartbeats 4000000 in
theorem c_A_seller {l : Launch} {x : am_X} {e L : Nat} {d : am_D} {cash esc pd pt ow : Nat → Int32} {res : Nat → Int} {wt : Nat → Nat → Int} {T : Nat → Nat} {n : Nat} {se : Int32} {cl : Bool} (h : RA cash esc pd pt ow res wt T n se cl d) : cM l x e L m_A_seller [.ref 0] d (fun r d' => r = some (.int se) ∧ RA cash esc pd pt ow res wt T n se cl d' ∧ fA d d') := by
  obtain ⟨h1, h2, h3, h4, h5, h6, h7, h8, h9, h10, h11⟩ := id h
  refine cM.go (by decide) (by simp [Value.category]) (Nat.le_of_ble_eq_true rfl) ?_
  refine am_go cd_A_seller hc_A_seller 0 1 (pc' := 1) (L' := [some (.ref 0)]) (st' := [.ref 0]) rfl ?_
  refine am_getf 0 9 k_r0 (am_at hc_A_seller 1 rfl) rfl (by decide) rfl (by decide) k_ok0 (Or.inl (tw 84 rfl rfl)) (congrArg Value.int h9) ?_
  exact am_iret (am_at hc_A_seller 2 rfl) rfl rfl ⟨rfl, rfl, rfl, h, fA.rf⟩
set_option maxHeartbeats 4000000 in
theorem c_A_state {l : Launch} {x : am_X} {e L : Nat} {d : am_D} {cash esc pd pt ow : Nat → Int32} {res : Nat → Int} {wt : Nat → Nat → Int} {T : Nat → Nat} {n : Nat} {se : Int32} {cl : Bool} (h : RA cash esc pd pt ow res wt T n se cl d) : cM l x e L m_A_state [.ref 0] d (fun r d' => r = some (.int (bI cl)) ∧ RA cash esc pd pt ow res wt T n se cl d' ∧ fA d d') := by
  obtain ⟨h1, h2, h3, h4, h5, h6, h7, h8, h9, h10, h11⟩ := id h
  refine cM.go (by decide) (by simp [Value.category]) (Nat.le_of_ble_eq_true rfl) ?_
  refine am_go cd_A_state hc_A_state 0 1 (pc' := 1) (L' := [some (.ref 0)]) (st' := [.ref 0]) rfl ?_
  refine am_getf 0 10 k_r0 (am_at hc_A_state 1 rfl) rfl (by decide) rfl (by decide) k_ok0 (Or.inl (tw 85 rfl rfl)) (congrArg Value.int h10) ?_
  cases cl with
  | false =>
    simp only [bI_f]
    refine am_if_eq 11 (am_at hc_A_state 2 rfl) (by decide) (fun q0 => ?_) (fun q0 => absurd rfl q0)
    refine am_go cd_A_state hc_A_state 5 1 (pc' := 12) (L' := [some (.ref 0)]) (st' := [.int 0]) rfl ?_
    exact am_iret (am_at hc_A_state 6 rfl) rfl rfl ⟨rfl, rfl, rfl, h, fA.rf⟩
  | true =>
    simp only [bI_t]
    refine am_if_eq 11 (am_at hc_A_state 2 rfl) (by decide) (fun q0 => absurd q0 (by decide)) (fun q0 => ?_)
    refine am_go cd_A_state hc_A_state 3 2 (pc' := 12) (L' := [some (.ref 0)]) (st' := [.int 1]) rfl ?_
    exact am_iret (am_at hc_A_state 6 rfl) rfl rfl ⟨rfl, rfl, rfl, h, fA.rf⟩
set_option maxHeartbeats 4000000 in
theorem c_A_worth {l : Launch} {x : am_X} {e L : Nat} {d : am_D} {cash esc pd pt ow : Nat → Int32} {res : Nat → Int} {wt : Nat → Nat → Int} {T : Nat → Nat} {n : Nat} {se : Int32} {cl : Bool} (h : RA cash esc pd pt ow res wt T n se cl d) (v m : Int32) : cM l x (e + 1) L m_A_worth [.ref 0, .int v, .int m] d (fun r d' => r = some (.int (if woOk v m then zI (wt (cN v) (cN m)) else -2)) ∧ RA cash esc pd pt ow res wt T n se cl d' ∧ fA d d') := by
  obtain ⟨h1, h2, h3, h4, h5, h6, h7, h8, h9, h10, h11⟩ := id h
  refine cM.go (by decide) (by simp [Value.category]) (Nat.le_of_ble_eq_true rfl) ?_
  refine am_go cd_A_worth hc_A_worth 0 1 (pc' := 1) (L' := [some (.ref 0), some (.int v), some (.int m)]) (st' := [.int v]) rfl ?_
  refine cW.callS1 4 [.int (if isB v then 1 else 0)] (st := []) [.int v] (am_at hc_A_worth 1 rfl) g_A_isBidder (Or.inl (tw 113 rfl rfl)) (tw 114 rfl rfl) rfl rfl (Nat.le_of_ble_eq_true rfl) (c_isB v) rfl rfl ?_
  by_cases hb : isB v
  · simp only [if_pos hb]
    refine am_if_eq 17 (am_at hc_A_worth 2 rfl) (by decide) (fun q1 => absurd q1 (by decide)) (fun q1 => ?_)
    refine am_go cd_A_worth hc_A_worth 3 1 (pc' := 8) (L' := [some (.ref 0), some (.int v), some (.int m)]) (st' := [.int m]) rfl ?_
    refine am_if_lt 17 (am_at hc_A_worth 4 rfl) (by decide) (fun q2 => ?_) (fun q2 => ?_)
    · skip
      have hno : ¬ woOk v m := fun z => Int32.not_lt.mpr z.2.1 q2
      simp only [if_neg hno]
      refine am_go cd_A_worth hc_A_worth 8 1 (pc' := 19) (L' := [some (.ref 0), some (.int v), some (.int m)]) (st' := [.int (-2)]) rfl ?_
      exact am_iret (am_at hc_A_worth 9 rfl) rfl rfl ⟨rfl, rfl, rfl, h, fA.rf⟩
    · skip
      refine am_go cd_A_worth hc_A_worth 5 2 (pc' := 14) (L' := [some (.ref 0), some (.int v), some (.int m)]) (st' := [.int 64, .int m]) rfl ?_
      refine am_icmp_lt 20 (am_at hc_A_worth 7 rfl) (by decide) (fun q3 => ?_) (fun q3 => ?_)
      · have hok : woOk v m := ⟨hb, Int32.not_lt.mp q2, q3⟩
        simp only [if_pos hok]
        obtain ⟨b, hb5, rfl⟩ := isB_of hb
        obtain ⟨s, hs31, rfl⟩ := nI_of q2
        have hs : s < 64 := (nI_ltI (b := 64) hs31 (by decide)).mp q3
        simp only [nI_cl (show b < 1000000 by omega), nI_cl (show s < 1000000 by omega)]
        have hsh := SH_w L b hb5
        refine am_go cd_A_worth hc_A_worth 10 1 (pc' := 21) (L' := [some (.ref 0), some (.int (nI b)), some (.int (nI s))]) (st' := [.ref 0]) rfl ?_
        refine am_getf 0 6 k_r0 (am_at hc_A_worth 11 rfl) rfl (by decide) rfl (by decide) k_ok0 (Or.inl (tw 81 rfl rfl)) rfl ?_
        refine am_go cd_A_worth hc_A_worth 12 1 (pc' := 25) (L' := [some (.ref 0), some (.int (nI b)), some (.int (nI s))]) (st' := [.int (nI b), .ref 7]) rfl ?_
        refine am_aaload (b) (8 + b) (am_at hc_A_worth 13 rfl) rfl (by decide) rfl (by show b < 5; omega) (Nat.le_of_ble_eq_true rfl) (if_pos hb5) ?_
        refine am_go cd_A_worth hc_A_worth 14 1 (pc' := 27) (L' := [some (.ref 0), some (.int (nI b)), some (.int (nI s))]) (st' := [.int (nI s), .ref (8 + b)]) rfl ?_
        refine am_iaload (s) (am_at hc_A_worth 15 rfl) (by rw [hsh]) (Or.inl (by omega)) rfl (by rw [hsh]; exact hs) (by rw [hsh]; decide) ?_
        rw [show d (8 + b) s = zI (wt b s) from (h7 b hb5).2 s hs]
        exact am_iret (am_at hc_A_worth 16 rfl) rfl rfl ⟨rfl, rfl, rfl, h, fA.rf⟩
      · skip
        have hno : ¬ woOk v m := fun z => q3 z.2.2
        simp only [if_neg hno]
        refine am_go cd_A_worth hc_A_worth 8 1 (pc' := 19) (L' := [some (.ref 0), some (.int v), some (.int m)]) (st' := [.int (-2)]) rfl ?_
        exact am_iret (am_at hc_A_worth 9 rfl) rfl rfl ⟨rfl, rfl, rfl, h, fA.rf⟩
  · simp only [if_neg hb]
    refine am_if_eq 17 (am_at hc_A_worth 2 rfl) (by decide) (fun q1 => ?_) (fun q1 => absurd rfl q1)
    have hno : ¬ woOk v m := fun z => hb z.1
    simp only [if_neg hno]
    refine am_go cd_A_worth hc_A_worth 8 1 (pc' := 19) (L' := [some (.ref 0), some (.int v), some (.int m)]) (st' := [.int (-2)]) rfl ?_
    exact am_iret (am_at hc_A_worth 9 rfl) rfl rfl ⟨rfl, rfl, rfl, h, fA.rf⟩
end
section
set_option maxHeartbeats 4000000 in
theorem c_A_dropBid {l : Launch} {x : am_X} {e L : Nat} {d : am_D} {cash esc pd pt ow : Nat → Int32} {res : Nat → Int} {wt : Nat → Nat → Int} {T : Nat → Nat} {n : Nat} {se : Int32} {cl : Bool} (h : RA cash esc pd pt ow res wt T n se cl d) {b : Nat} (hb5 : b < 5) : cM l x (e + 1) L m_A_dropBid [.ref 0, .int (nI b)] d (fun r d' => r = none ∧ RA cash esc pd (upd pt b 0) ow res (updw wt b (fun _ => 0)) T n se cl d' ∧ fA d d') := by
  obtain ⟨h1, h2, h3, h4, h5, h6, h7, h8, h9, h10, h11⟩ := id h
  refine cM.go (by decide) (by simp [Value.category]) (Nat.le_of_ble_eq_true rfl) ?_
  have hsh := SH_w L b hb5
  refine am_go cd_A_dropBid hc_A_dropBid 0 1 (pc' := 1) (L' := [some (.ref 0), some (.int (nI b))]) (st' := [.ref 0]) rfl ?_
  refine am_getf 0 6 k_r0 (am_at hc_A_dropBid 1 rfl) rfl (by decide) rfl (by decide) k_ok0 (Or.inl (tw 81 rfl rfl)) rfl ?_
  refine am_go cd_A_dropBid hc_A_dropBid 2 1 (pc' := 5) (L' := [some (.ref 0), some (.int (nI b))]) (st' := [.int (nI b), .ref 7]) rfl ?_
  refine am_aaload (b) (8 + b) (am_at hc_A_dropBid 3 rfl) rfl (by decide) rfl (by show b < 5; omega) (Nat.le_of_ble_eq_true rfl) (if_pos hb5) ?_
  refine am_go cd_A_dropBid hc_A_dropBid 4 1 (pc' := 7) (L' := [some (.ref 0), some (.int (nI b))]) (st' := [.int 0, .ref (8 + b)]) rfl ?_
  refine cW.callS1 10 [] (st := []) [.ref (8 + b), .int 0] (am_at hc_A_dropBid 5 rfl) g_J_fill (Or.inl (tw 130 rfl rfl)) (tw 131 rfl rfl) rfl rfl (Nat.le_of_ble_eq_true rfl) (c_fill (8 + b) hsh (by omega)) rfl rfl ?_
  refine am_go cd_A_dropBid hc_A_dropBid 6 1 (pc' := 11) (L' := [some (.ref 0), some (.int (nI b))]) (st' := [.ref 0]) rfl ?_
  refine am_getf 0 5 k_r0 (am_at hc_A_dropBid 7 rfl) rfl (by decide) rfl (by decide) k_ok0 (Or.inl (tw 80 rfl rfl)) rfl ?_
  refine am_go cd_A_dropBid hc_A_dropBid 8 2 (pc' := 16) (L' := [some (.ref 0), some (.int (nI b))]) (st' := [.int 0, .int (nI b), .ref 6]) rfl ?_
  refine am_iastore (b) (am_at hc_A_dropBid 10 rfl) rfl (by decide) rfl (by show b < 5; omega) (Nat.le_of_ble_eq_true rfl) ?_
  exact am_vret (am_at hc_A_dropBid 11 rfl) rfl ⟨rfl, rfl, rfl, (h.wt hb5 tb_0 (fun _ _ => rfl)).pt, (fA.t (by omega)).tr (fA.u (by decide))⟩
set_option maxHeartbeats 4000000 in
theorem c_A_giveBack {l : Launch} {x : am_X} {e L : Nat} {d : am_D} {cash esc pd pt ow : Nat → Int32} {res : Nat → Int} {wt : Nat → Nat → Int} {T : Nat → Nat} {n : Nat} {se : Int32} {cl : Bool} (h : RA cash esc pd pt ow res wt T n se cl d) {b : Nat} (hb5 : b < 5) : cM l x e L m_A_giveBack [.ref 0, .int (nI b)] d (fun r d' => r = none ∧ RA (upd cash b (cash b + esc b)) (upd esc b 0) pd pt ow res wt T n se cl d' ∧ fA d d') := by
  obtain ⟨h1, h2, h3, h4, h5, h6, h7, h8, h9, h10, h11⟩ := id h
  refine cM.go (by decide) (by simp [Value.category]) (Nat.le_of_ble_eq_true rfl) ?_
  refine am_go cd_A_giveBack hc_A_giveBack 0 1 (pc' := 1) (L' := [some (.ref 0), some (.int (nI b))]) (st' := [.ref 0]) rfl ?_
  refine am_getf 0 0 k_r0 (am_at hc_A_giveBack 1 rfl) rfl (by decide) rfl (by decide) k_ok0 (Or.inl (tw 75 rfl rfl)) rfl ?_
  refine am_go cd_A_giveBack hc_A_giveBack 2 2 (pc' := 6) (L' := [some (.ref 0), some (.int (nI b))]) (st' := [.int (nI b), .ref 1, .int (nI b), .ref 1]) rfl ?_
  refine am_iaload (b) (am_at hc_A_giveBack 4 rfl) rfl (Or.inl (by decide)) rfl (by show b < 5; omega) (Nat.le_of_ble_eq_true rfl) ?_
  rw [show d 1 b = cash b from h1 b hb5]
  refine am_go cd_A_giveBack hc_A_giveBack 5 1 (pc' := 8) (L' := [some (.ref 0), some (.int (nI b))]) (st' := [.ref 0, .int (cash b), .int (nI b), .ref 1]) rfl ?_
  refine am_getf 0 1 k_r0 (am_at hc_A_giveBack 6 rfl) rfl (by decide) rfl (by decide) k_ok0 (Or.inl (tw 76 rfl rfl)) rfl ?_
  refine am_go cd_A_giveBack hc_A_giveBack 7 1 (pc' := 12) (L' := [some (.ref 0), some (.int (nI b))]) (st' := [.int (nI b), .ref 2, .int (cash b), .int (nI b), .ref 1]) rfl ?_
  refine am_iaload (b) (am_at hc_A_giveBack 8 rfl) rfl (Or.inl (by decide)) rfl (by show b < 5; omega) (Nat.le_of_ble_eq_true rfl) ?_
  rw [show d 2 b = esc b from h2 b hb5]
  refine am_go cd_A_giveBack hc_A_giveBack 9 1 (pc' := 14) (L' := [some (.ref 0), some (.int (nI b))]) (st' := [.int (cash b + esc b), .int (nI b), .ref 1]) rfl ?_
  refine am_iastore (b) (am_at hc_A_giveBack 10 rfl) rfl (by decide) rfl (by show b < 5; omega) (Nat.le_of_ble_eq_true rfl) ?_
  refine am_go cd_A_giveBack hc_A_giveBack 11 1 (pc' := 16) (L' := [some (.ref 0), some (.int (nI b))]) (st' := [.ref 0]) rfl ?_
  refine am_getf 0 1 k_r0 (am_at hc_A_giveBack 12 rfl) rfl (by decide) rfl (by decide) k_ok0 (Or.inl (tw 76 rfl rfl)) rfl ?_
  refine am_go cd_A_giveBack hc_A_giveBack 13 2 (pc' := 21) (L' := [some (.ref 0), some (.int (nI b))]) (st' := [.int 0, .int (nI b), .ref 2]) rfl ?_
  refine am_iastore (b) (am_at hc_A_giveBack 15 rfl) rfl (by decide) rfl (by show b < 5; omega) (Nat.le_of_ble_eq_true rfl) ?_
  exact am_vret (am_at hc_A_giveBack 16 rfl) rfl ⟨rfl, rfl, rfl, h.cash.esc, (fA.u (by decide)).tr (fA.u (by decide))⟩
set_option maxHeartbeats 4000000 in
theorem c_A_withdraw {l : Launch} {x : am_X} {e L : Nat} {d : am_D} {cash esc pd pt ow : Nat → Int32} {res : Nat → Int} {wt : Nat → Nat → Int} {T : Nat → Nat} {n : Nat} {se : Int32} {cl : Bool} (h : RA cash esc pd pt ow res wt T n se cl d) (v : Int32) : cM l x (e + 2) L m_A_withdraw [.ref 0, .int v] d (fun r d' => r = some (.int (if opB cl v then 1 else 0)) ∧ RA (if opB cl v then upd cash (cN v) (cash (cN v) + esc (cN v)) else cash) (if opB cl v then upd esc (cN v) 0 else esc) pd (if opB cl v then upd pt (cN v) 0 else pt) ow res (if opB cl v then updw wt (cN v) (fun _ => 0) else wt) T n se cl d' ∧ fA d d') := by
  obtain ⟨h1, h2, h3, h4, h5, h6, h7, h8, h9, h10, h11⟩ := id h
  refine cM.go (by decide) (by simp [Value.category]) (Nat.le_of_ble_eq_true rfl) ?_
  refine am_go cd_A_withdraw hc_A_withdraw 0 1 (pc' := 1) (L' := [some (.ref 0), some (.int v)]) (st' := [.ref 0]) rfl ?_
  refine am_getf 0 10 k_r0 (am_at hc_A_withdraw 1 rfl) rfl (by decide) rfl (by decide) k_ok0 (Or.inl (tw 85 rfl rfl)) (congrArg Value.int h10) ?_
  cases cl with
  | true =>
    simp only [bI_t]
    refine am_if_ne 14 (am_at hc_A_withdraw 2 rfl) (by decide) (fun q0 => ?_) (fun q0 => absurd q0 (by decide))
    have hno : ¬ opB true v := fun z => by cases z.1
    simp only [if_neg hno]
    refine am_go cd_A_withdraw hc_A_withdraw 6 1 (pc' := 15) (L' := [some (.ref 0), some (.int v)]) (st' := [.int 0]) rfl ?_
    exact am_iret (am_at hc_A_withdraw 7 rfl) rfl rfl ⟨rfl, rfl, rfl, h, fA.rf⟩
  | false =>
    simp only [bI_f]
    refine am_if_ne 14 (am_at hc_A_withdraw 2 rfl) (by decide) (fun q0 => absurd rfl q0) (fun q0 => ?_)
    refine am_go cd_A_withdraw hc_A_withdraw 3 1 (pc' := 8) (L' := [some (.ref 0), some (.int v)]) (st' := [.int v]) rfl ?_
    refine cW.callS1 11 [.int (if isB v then 1 else 0)] (st := []) [.int v] (am_at hc_A_withdraw 4 rfl) g_A_isBidder (Or.inl (tw 113 rfl rfl)) (tw 114 rfl rfl) rfl rfl (Nat.le_of_ble_eq_true rfl) (c_isB v) rfl rfl ?_
    by_cases hb : isB v
    · simp only [if_pos hb]
      refine am_if_ne 16 (am_at hc_A_withdraw 5 rfl) (by decide) (fun q1 => ?_) (fun q1 => absurd q1 (by decide))
      have hok : opB false v := ⟨rfl, hb⟩
      simp only [if_pos hok]
      obtain ⟨b, hb5, rfl⟩ := isB_of hb
      simp only [nI_cl (show b < 1000000 by omega)]
      refine am_go cd_A_withdraw hc_A_withdraw 8 2 (pc' := 18) (L' := [some (.ref 0), some (.int (nI b))]) (st' := [.int (nI b), .ref 0]) rfl ?_
      refine cW.callV (st := []) [.int (nI b)] (am_at hc_A_withdraw 10 rfl) g_A_dropBid (Or.inl (tw 126 rfl rfl)) (tw 128 rfl rfl) (tp 0 rfl rfl) 0 k_r0 rfl (by decide) rfl rfl rfl rfl (Nat.le_of_ble_eq_true rfl) (c_A_dropBid h hb5) ?_
      rintro _ d1 ⟨rfl, hA, hf⟩
      show cW _ _ (e + 2) _ m_A_withdraw 21 [some (.ref 0), some (.int (nI b))] [] _ _
      refine am_go cd_A_withdraw hc_A_withdraw 11 2 (pc' := 23) (L' := [some (.ref 0), some (.int (nI b))]) (st' := [.int (nI b), .ref 0]) rfl ?_
      refine cW.callV (st := []) [.int (nI b)] (am_at hc_A_withdraw 13 rfl) g_A_giveBack (Or.inl (tw 133 rfl rfl)) (tw 135 rfl rfl) (tp 1 rfl rfl) 0 k_r0 rfl (by decide) rfl rfl rfl rfl (Nat.le_of_ble_eq_true rfl) (c_A_giveBack hA hb5) ?_
      rintro _ d2 ⟨rfl, hA2, hf2⟩
      show cW _ _ (e + 2) _ m_A_withdraw 26 [some (.ref 0), some (.int (nI b))] [] _ _
      refine am_go cd_A_withdraw hc_A_withdraw 14 1 (pc' := 27) (L' := [some (.ref 0), some (.int (nI b))]) (st' := [.int 1]) rfl ?_
      exact am_iret (am_at hc_A_withdraw 15 rfl) rfl rfl ⟨rfl, rfl, rfl, hA2, hf.tr hf2⟩
    · simp only [if_neg hb]
      refine am_if_ne 16 (am_at hc_A_withdraw 5 rfl) (by decide) (fun q1 => absurd rfl q1) (fun q1 => ?_)
      have hno : ¬ opB false v := fun z => hb z.2
      simp only [if_neg hno]
      refine am_go cd_A_withdraw hc_A_withdraw 6 1 (pc' := 15) (L' := [some (.ref 0), some (.int v)]) (st' := [.int 0]) rfl ?_
      exact am_iret (am_at hc_A_withdraw 7 rfl) rfl rfl ⟨rfl, rfl, rfl, h, fA.rf⟩
abbrev tyNo (n : Nat) (v : Int32) : Prop := v < 32 ∨ 126 < v ∨ 40 ≤ n
theorem ty_code {n : Nat} {v : Int32} (h : ¬ tyNo n v) : ∃ c, c < 128 ∧ 32 ≤ c ∧ v = nI c ∧ vp_nar .char v = nI c ∧ n < 40 := by
  have h1 : ¬ v < 32 := fun z => h (Or.inl z)
  have h2 : ¬ 126 < v := fun z => h (Or.inr (Or.inl z))
  have h3 : n < 40 := Nat.not_le.mp (fun z => h (Or.inr (Or.inr z)))
  have h0 : ¬ v < 0 := fun z => h1 (Int32.lt_iff_toInt_lt.mpr (by have := Int32.lt_iff_toInt_lt.mp z; have e0 : (0 : Int32).toInt = 0 := rfl; have e1 : (32 : Int32).toInt = 32 := rfl; omega))
  obtain ⟨c, hc, rfl⟩ := nI_of h0
  have h4 : c ≤ 126 := Nat.not_lt.mp (fun z => h2 ((nI_ltI (a := 126) (by decide) hc).mpr z))
  have h5 : 32 ≤ c := Nat.not_lt.mp (fun z => h1 ((nI_ltI (b := 32) hc (by decide)).mpr z))
  refine ⟨c, by omega, h5, rfl, ?_, h3⟩
  have := (pk_charN (q := c) (by omega)).1
  unfold vp_nar
  rw [this]
set_option maxHeartbeats 4000000 in
theorem c_A_type {l : Launch} {x : am_X} {e L : Nat} {d : am_D} {cash esc pd pt ow : Nat → Int32} {res : Nat → Int} {wt : Nat → Nat → Int} {T : Nat → Nat} {n : Nat} {se : Int32} {cl : Bool} (h : RA cash esc pd pt ow res wt T n se cl d) (v : Int32) : cM l x (e + 1) L m_A_type [.ref 0, .int v] d (fun r d' => r = some (.int (if tyNo n v then 0 else 1)) ∧ RA cash esc pd pt ow res wt (if tyNo n v then T else (fun j => if j = n then cN v else T j)) (if tyNo n v then n else n + 1) se cl d' ∧ fA d d') := by
  obtain ⟨h1, h2, h3, h4, h5, h6, h7, h8, h9, h10, h11⟩ := id h
  refine cM.go (by decide) (by simp [Value.category]) (Nat.le_of_ble_eq_true rfl) ?_
  refine am_go cd_A_type hc_A_type 0 1 (pc' := 1) (L' := [some (.ref 0), some (.int v)]) (st' := [.ref 0]) rfl ?_
  refine am_getf 0 7 k_r0 (am_at hc_A_type 1 rfl) rfl (by decide) rfl (by decide) k_ok0 (Or.inl (tw 82 rfl rfl)) rfl ?_
  refine am_go cd_A_type hc_A_type 2 1 (pc' := 5) (L' := [some (.ref 0), some (.int v)]) (st' := [.int v, .ref 13]) rfl ?_
  refine cW.callV1 8 [.int (if tyNo n v then 0 else 1)] (st := []) [.int v] (am_at hc_A_type 3 rfl) g_B_add (Or.inl (tw 148 rfl rfl)) (tw 149 rfl rfl) (tw 150 rfl rfl) 1 k_r1 rfl (by decide) rfl rfl rfl rfl (Nat.le_of_ble_eq_true rfl) (c_B_add v h8.1 h8.2.1) rfl rfl ?_
  by_cases hno : tyNo n v
  · simp only [if_pos hno]
    exact am_iret (am_at hc_A_type 4 rfl) rfl rfl ⟨rfl, rfl, rfl, h, fA.rf⟩
  · obtain ⟨c, hc, hc2, rfl, hnar, hn40⟩ := ty_code hno
    simp only [if_neg hno, hnar, nI_cl (show c < 1000000 by omega)]
    exact am_iret (am_at hc_A_type 4 rfl) rfl rfl ⟨rfl, rfl, rfl, h.n1 hn40 hc, (fA.u (by decide)).tr (fA.u (by decide))⟩
set_option maxHeartbeats 4000000 in
theorem c_A_reopen {l : Launch} {x : am_X} {e L : Nat} {d : am_D} {cash esc pd pt ow : Nat → Int32} {res : Nat → Int} {wt : Nat → Nat → Int} {T : Nat → Nat} {n : Nat} {se : Int32} {cl : Bool} (h : RA cash esc pd pt ow res wt T n se cl d) : cM l x (e + 2) L m_A_reopen [.ref 0] d (fun r d' => r = some (.int (bI cl)) ∧ RA cash esc pd (if cl = true then fun b => if b < 5 then 0 else pt b else pt) ow res (if cl = true then fun b => if b < 5 then (fun _ => 0) else wt b else wt) T n se false d' ∧ fA d d') := by
  obtain ⟨h1, h2, h3, h4, h5, h6, h7, h8, h9, h10, h11⟩ := id h
  refine cM.go (by decide) (by simp [Value.category]) (Nat.le_of_ble_eq_true rfl) ?_
  refine am_go cd_A_reopen hc_A_reopen 0 1 (pc' := 1) (L' := [some (.ref 0), none]) (st' := [.ref 0]) rfl ?_
  refine am_getf 0 10 k_r0 (am_at hc_A_reopen 1 rfl) rfl (by decide) rfl (by decide) k_ok0 (Or.inl (tw 85 rfl rfl)) (congrArg Value.int h10) ?_
  cases cl with
  | false =>
    simp only [bI_f]
    refine am_if_ne 9 (am_at hc_A_reopen 2 rfl) (by decide) (fun q0 => absurd rfl q0) (fun q0 => ?_)
    refine am_go cd_A_reopen hc_A_reopen 3 1 (pc' := 8) (L' := [some (.ref 0), none]) (st' := [.int 0]) rfl ?_
    exact am_iret (am_at hc_A_reopen 4 rfl) rfl rfl ⟨rfl, rfl, rfl, h, fA.rf⟩
  | true =>
    simp only [bI_t]
    refine am_if_ne 9 (am_at hc_A_reopen 2 rfl) (by decide) (fun q0 => ?_) (fun q0 => absurd q0 (by decide))
    refine am_go cd_A_reopen hc_A_reopen 5 2 (pc' := 11) (L' := [some (.ref 0), some (.int 0)]) (st' := []) rfl ?_
    have loop : ∀ q k d1, k + q = 5 → RA cash esc pd (fun b => if b < k then 0 else pt b) ow res (fun b => if b < k then (fun _ => 0) else wt b) T n se true d1 → fA d d1 → cW l x (e + 2) L m_A_reopen 11 [some (.ref 0), some (.int (nI k))] [] d1 (fun r d' => r = some (.int 1) ∧ RA cash esc pd (fun b => if b < 5 then 0 else pt b) ow res (fun b => if b < 5 then (fun _ => 0) else wt b) T n se false d' ∧ fA d d') := by
      intro q
      induction q with
      | zero =>
        intro k d1 hk hA hf
        have hk5 : k = 5 := by omega
        subst hk5
        refine am_go cd_A_reopen hc_A_reopen 7 2 (pc' := 13) (L' := [some (.ref 0), some (.int (nI 5))]) (st' := [.int 5, .int (nI 5)]) rfl ?_
        refine am_icmp_ge 27 (am_at hc_A_reopen 9 rfl) (by decide) (fun h => ?_) (fun h => absurd (nI_le (a := 5) (b := 5) (by omega) (by omega)) h)
        refine am_go cd_A_reopen hc_A_reopen 15 2 (pc' := 29) (L' := [some (.ref 0), some (.int (nI 5))]) (st' := [.int 0, .ref 0]) rfl ?_
        refine am_putI 0 10 k_r0 (am_at hc_A_reopen 17 rfl) rfl (by decide) rfl (by decide) k_ok0 (tw 85 rfl rfl) rfl rfl rfl rfl ?_
        refine am_go cd_A_reopen hc_A_reopen 18 1 (pc' := 33) (L' := [some (.ref 0), some (.int (nI 5))]) (st' := [.int 1]) rfl ?_
        exact am_iret (am_at hc_A_reopen 19 rfl) rfl rfl ⟨rfl, rfl, rfl, hA.cl (c := false), hf.tr (fA.u (by decide))⟩
      | succ q ih =>
        intro k d1 hk hA hf
        refine am_go cd_A_reopen hc_A_reopen 7 2 (pc' := 13) (L' := [some (.ref 0), some (.int (nI k))]) (st' := [.int 5, .int (nI k)]) rfl ?_
        refine am_icmp_ge 27 (am_at hc_A_reopen 9 rfl) (by decide) (fun h => absurd h (nI_ge (a := k) (b := 5) (by omega) (by omega))) (fun h => ?_)
        refine am_go cd_A_reopen hc_A_reopen 10 2 (pc' := 18) (L' := [some (.ref 0), some (.int (nI k))]) (st' := [.int (nI k), .ref 0]) rfl ?_
        refine cW.callV (st := []) [.int (nI k)] (am_at hc_A_reopen 12 rfl) g_A_dropBid (Or.inl (tw 126 rfl rfl)) (tw 128 rfl rfl) (tp 0 rfl rfl) 0 k_r0 rfl (by decide) rfl rfl rfl rfl (Nat.le_of_ble_eq_true rfl) (c_A_dropBid hA (by omega)) ?_
        rintro _ d2 ⟨rfl, hA2, hf2⟩
        show cW _ _ (e + 2) _ m_A_reopen 21 [some (.ref 0), some (.int (nI k))] [] _ _
        refine am_go cd_A_reopen hc_A_reopen 13 2 (pc' := 11) (L' := [some (.ref 0), some (.int (nI k + 1))]) (st' := []) rfl ?_
        rw [nI_1]
        refine ih (k + 1) d2 (by omega) ?_ (hf.tr hf2)
        have e1 : updw (fun b => if b < k then (fun _ => 0) else wt b) k (fun _ => 0) = (fun b => if b < (k + 1) then (fun _ => 0) else wt b) := by
          funext b; unfold updw; by_cases z : b = k; · simp [z]
          by_cases z2 : b < k
          · simp [z, z2, show b < k + 1 by omega]
          · simp [z, z2, show ¬ b < k + 1 by omega]
        have e2 : upd (fun b => if b < k then 0 else pt b) k 0 = (fun b => if b < (k + 1) then 0 else pt b) := by
          funext b; unfold upd; by_cases z : b = k; · simp [z]
          by_cases z2 : b < k
          · simp [z, z2, show b < k + 1 by omega]
          · simp [z, z2, show ¬ b < k + 1 by omega]
        rw [e1, e2] at hA2
        exact hA2
    exact loop 5 0 d rfl (by simpa using h) fA.rf
def subA (esc : Nat → Int32) (cl : Bool) (T : Nat → Nat) (n : Nat) (v : Int32) : Int32 := if opB cl v then (match pr_read T n with
  | .inl q => nI q
  | .inr r => if esc (cN v) < zI (r.2 63) then -3 else -1) else -2
def subW (wt : Nat → Nat → Int) (esc : Nat → Int32) (cl : Bool) (T : Nat → Nat) (n : Nat) (v : Int32) : Nat → Nat → Int := if opB cl v then (match pr_read T n with
  | .inl _ => wt
  | .inr r => if esc (cN v) < zI (r.2 63) then wt else updw wt (cN v) r.2) else wt
def subP (pt : Nat → Int32) (esc : Nat → Int32) (cl : Bool) (T : Nat → Nat) (n : Nat) (v : Int32) : Nat → Int32 := if opB cl v then (match pr_read T n with
  | .inl _ => pt
  | .inr r => if esc (cN v) < zI (r.2 63) then pt else upd pt (cN v) (nI r.1)) else pt
theorem pr_read_good (T : Nat → Nat) (n : Nat) : (∀ q, pr_read T n = .inl q → q ≤ n) ∧ ∀ c v, pr_read T n = .inr (c, v) → c ≤ 12 ∧ tb_ok v := by
  have hg := pr_bidk_good (T := T) 8 0 0 (Nat.zero_le n) (by decide)
  unfold pr_read
  generalize pr_bidk T n 8 0 0 = r at hg ⊢
  obtain ⟨q, oo⟩ := r
  cases oo with
  | none => exact ⟨fun q' z => by cases z; exact hg.1, fun c v z => by cases z⟩
  | some r =>
    dsimp only
    split
    · exact ⟨fun q' z => (by cases z), fun c v z => by cases z; exact hg.2 _ _ rfl⟩
    · exact ⟨fun q' z => by cases z; exact hg.1, fun c v z => by cases z⟩
set_option maxHeartbeats 4000000 in
theorem c_A_submit {l : Launch} {x : am_X} {e L : Nat} {d : am_D} {cash esc pd pt ow : Nat → Int32} {res : Nat → Int} {wt : Nat → Nat → Int} {T : Nat → Nat} {n : Nat} {se : Int32} {cl : Bool} (h : RA cash esc pd pt ow res wt T n se cl d) (v : Int32) : cM l x (e + 41) L m_A_submit [.ref 0, .int v] d (fun r d' => r = some (.int (subA esc cl T n v)) ∧ RA cash esc pd (subP pt esc cl T n v) ow res (subW wt esc cl T n v) T (if opB cl v then 0 else n) se cl d' ∧ fA d d') := by
  obtain ⟨h1, h2, h3, h4, h5, h6, h7, h8, h9, h10, h11⟩ := id h
  refine cM.go (by decide) (by simp [Value.category]) (Nat.le_of_ble_eq_true rfl) ?_
  refine am_go cd_A_submit hc_A_submit 0 1 (pc' := 1) (L' := [some (.ref 0), some (.int v), none]) (st' := [.ref 0]) rfl ?_
  refine am_getf 0 10 k_r0 (am_at hc_A_submit 1 rfl) rfl (by decide) rfl (by decide) k_ok0 (Or.inl (tw 85 rfl rfl)) (congrArg Value.int h10) ?_
  cases cl with
  | true =>
    simp only [bI_t]
    refine am_if_ne 14 (am_at hc_A_submit 2 rfl) (by decide) (fun q0 => ?_) (fun q0 => absurd q0 (by decide))
    have hno : ¬ opB true v := fun z => by cases z.1
    simp only [subA, subW, subP, if_neg hno]
    refine am_go cd_A_submit hc_A_submit 6 1 (pc' := 16) (L' := [some (.ref 0), some (.int v), none]) (st' := [.int (-2)]) rfl ?_
    exact am_iret (am_at hc_A_submit 7 rfl) rfl rfl ⟨rfl, rfl, rfl, h, fA.rf⟩
  | false =>
    simp only [bI_f]
    refine am_if_ne 14 (am_at hc_A_submit 2 rfl) (by decide) (fun q0 => absurd rfl q0) (fun q0 => ?_)
    refine am_go cd_A_submit hc_A_submit 3 1 (pc' := 8) (L' := [some (.ref 0), some (.int v), none]) (st' := [.int v]) rfl ?_
    refine cW.callS1 11 [.int (if isB v then 1 else 0)] (st := []) [.int v] (am_at hc_A_submit 4 rfl) g_A_isBidder (Or.inl (tw 113 rfl rfl)) (tw 114 rfl rfl) rfl rfl (Nat.le_of_ble_eq_true rfl) (c_isB v) rfl rfl ?_
    by_cases hb : isB v
    · simp only [if_pos hb]
      refine am_if_ne 17 (am_at hc_A_submit 5 rfl) (by decide) (fun q1 => ?_) (fun q1 => absurd q1 (by decide))
      have hok : opB false v := ⟨rfl, hb⟩
      simp only [subA, subW, subP, if_pos hok]
      obtain ⟨b, hb5, rfl⟩ := isB_of hb
      simp only [nI_cl (show b < 1000000 by omega)]
      refine am_go cd_A_submit hc_A_submit 8 1 (pc' := 18) (L' := [some (.ref 0), some (.int (nI b)), none]) (st' := [.ref 0]) rfl ?_
      refine am_getf 0 7 k_r0 (am_at hc_A_submit 9 rfl) rfl (by decide) rfl (by decide) k_ok0 (Or.inl (tw 82 rfl rfl)) rfl ?_
      refine cW.callV (st := []) [] (am_at hc_A_submit 10 rfl) g_B_read (Or.inl (tw 156 rfl rfl)) (tw 157 rfl rfl) (tw 158 rfl rfl) 1 k_r1 rfl (by decide) rfl rfl rfl rfl (Nat.le_of_ble_eq_true rfl) (c_B_read h8) ?_
      rintro _ d1 ⟨rfl, hF, hv⟩
      show cW _ _ (e + 41) _ m_A_submit 24 [some (.ref 0), some (.int (nI b)), none] [.int (pr_ans (pr_read T n))] _ _
      have hA1 : RA cash esc pd pt ow res wt T n se false d1 := h.off (fun j _ => congrFun (hF.1 0 (by decide) (by decide) (by omega) (by omega)) j) (fun a ha => hF.1 a (by omega) (by omega) (by omega) (by omega)) (hF.2 1 (by decide) (by decide) (by decide))
      have hf1 : fA d d1 := fun a ha => hF.1 a (by omega) (by omega) (by omega) (by omega)
      refine am_go cd_A_submit hc_A_submit 11 2 (pc' := 26) (L' := [some (.ref 0), some (.int (nI b)), some (.int (pr_ans (pr_read T n)))]) (st' := [.ref 0]) rfl ?_
      refine am_getf 0 7 k_r0 (am_at hc_A_submit 13 rfl) rfl (by decide) rfl (by decide) k_ok0 (Or.inl (tw 82 rfl rfl)) rfl ?_
      refine cW.callV1 32 [] (st := []) [] (am_at hc_A_submit 14 rfl) g_B_empty (Or.inl (tw 226 rfl rfl)) (tw 227 rfl rfl) (tw 228 rfl rfl) 1 k_r1 rfl (by decide) rfl rfl rfl rfl (Nat.le_of_ble_eq_true rfl) c_B_empty rfl rfl ?_
      have hA2 := hA1.n0
      have hf2 : fA d (am_u d1 13 1 0) := hf1.tr (fA.u (by decide))
      obtain ⟨gd1, gd2⟩ := pr_read_good T n
      have hn40 := h8.2.1
      refine am_go cd_A_submit hc_A_submit 15 2 (pc' := 34) (L' := [some (.ref 0), some (.int (nI b)), some (.int (pr_ans (pr_read T n)))]) (st' := [.int (-1), .int (pr_ans (pr_read T n))]) rfl ?_
      generalize hR : pr_read T n = R at hv gd1 gd2 ⊢
      cases R with
      | inl q =>
        have hq := gd1 q rfl
        show cW _ _ _ _ m_A_submit 34 [some (.ref 0), some (.int (nI b)), some (.int (nI q))] [.int (-1), .int (nI q)] _ _
        refine am_icmp_eq 39 (am_at hc_A_submit 17 rfl) (by decide) (fun q3 => absurd q3 (fun z => absurd (show nI q < 0 by rw [z]; decide) (nI_pos (by omega)))) (fun q3 => ?_)
        refine am_go cd_A_submit hc_A_submit 18 1 (pc' := 38) (L' := [some (.ref 0), some (.int (nI b)), some (.int (nI q))]) (st' := [.int (nI q)]) rfl ?_
        exact am_iret (am_at hc_A_submit 19 rfl) rfl rfl ⟨rfl, rfl, rfl, hA2, hf2⟩
      | inr r =>
        obtain ⟨c, tb⟩ := r
        obtain ⟨g1, g2⟩ := gd2 c tb rfl
        obtain ⟨v1, v2⟩ := hv c tb rfl
        show cW _ _ _ _ m_A_submit 34 [some (.ref 0), some (.int (nI b)), some (.int (-1))] [.int (-1), .int (-1)] _ _
        refine am_icmp_eq 39 (am_at hc_A_submit 17 rfl) (by decide) (fun q3 => ?_) (fun q3 => absurd rfl q3)
        refine am_go cd_A_submit hc_A_submit 20 1 (pc' := 40) (L' := [some (.ref 0), some (.int (nI b)), some (.int (-1))]) (st' := [.ref 0]) rfl ?_
        refine am_getf 0 7 k_r0 (am_at hc_A_submit 21 rfl) rfl (by decide) rfl (by decide) k_ok0 (Or.inl (tw 82 rfl rfl)) rfl ?_
        refine am_getf 1 5 k_r1 (am_at hc_A_submit 22 rfl) rfl (by decide) rfl (by decide) k_ok1 (Or.inr ⟨_, tn 32 rfl rfl⟩) rfl ?_
        refine am_go cd_A_submit hc_A_submit 23 1 (pc' := 48) (L' := [some (.ref 0), some (.int (nI b)), some (.int (-1))]) (st' := [.int 63, .ref 15]) rfl ?_
        refine am_iaload (63) (am_at hc_A_submit 24 rfl) rfl (Or.inl (by decide)) rfl (Nat.le_of_ble_eq_true rfl) (Nat.le_of_ble_eq_true rfl) ?_
        rw [show am_u d1 13 1 0 15 63 = zI (tb 63) from (congrFun (am_u_ne 15 (by decide)) 63).trans (v2 63 (by decide))]
        refine am_go cd_A_submit hc_A_submit 25 1 (pc' := 50) (L' := [some (.ref 0), some (.int (nI b)), some (.int (-1))]) (st' := [.ref 0, .int (zI (tb 63))]) rfl ?_
        refine am_getf 0 1 k_r0 (am_at hc_A_submit 26 rfl) rfl (by decide) rfl (by decide) k_ok0 (Or.inl (tw 76 rfl rfl)) rfl ?_
        refine am_go cd_A_submit hc_A_submit 27 1 (pc' := 54) (L' := [some (.ref 0), some (.int (nI b)), some (.int (-1))]) (st' := [.int (nI b), .ref 2, .int (zI (tb 63))]) rfl ?_
        refine am_iaload (b) (am_at hc_A_submit 28 rfl) rfl (Or.inl (by decide)) rfl (by show b < 5; omega) (Nat.le_of_ble_eq_true rfl) ?_
        rw [show am_u d1 13 1 0 2 b = esc b from hA2.2.1 b hb5]
        refine am_icmp_le 61 (am_at hc_A_submit 29 rfl) (by decide) (fun q4 => ?_) (fun q4 => ?_)
        · have hno : ¬ esc b < zI (tb 63) := Int32.not_lt.mpr q4
          simp only [if_neg hno]
          have hsh := SH_w L b hb5
          refine am_go cd_A_submit hc_A_submit 32 1 (pc' := 62) (L' := [some (.ref 0), some (.int (nI b)), some (.int (-1))]) (st' := [.ref 0]) rfl ?_
          refine am_getf 0 7 k_r0 (am_at hc_A_submit 33 rfl) rfl (by decide) rfl (by decide) k_ok0 (Or.inl (tw 82 rfl rfl)) rfl ?_
          refine am_getf 1 5 k_r1 (am_at hc_A_submit 34 rfl) rfl (by decide) rfl (by decide) k_ok1 (Or.inr ⟨_, tn 32 rfl rfl⟩) rfl ?_
          refine am_go cd_A_submit hc_A_submit 35 2 (pc' := 70) (L' := [some (.ref 0), some (.int (nI b)), some (.int (-1))]) (st' := [.ref 0, .int 0, .ref 15]) rfl ?_
          refine am_getf 0 6 k_r0 (am_at hc_A_submit 37 rfl) rfl (by decide) rfl (by decide) k_ok0 (Or.inl (tw 81 rfl rfl)) rfl ?_
          refine am_go cd_A_submit hc_A_submit 38 1 (pc' := 74) (L' := [some (.ref 0), some (.int (nI b)), some (.int (-1))]) (st' := [.int (nI b), .ref 7, .int 0, .ref 15]) rfl ?_
          refine am_aaload (b) (8 + b) (am_at hc_A_submit 39 rfl) rfl (by decide) rfl (by show b < 5; omega) (Nat.le_of_ble_eq_true rfl) (if_pos hb5) ?_
          refine am_go cd_A_submit hc_A_submit 40 2 (pc' := 78) (L' := [some (.ref 0), some (.int (nI b)), some (.int (-1))]) (st' := [.int 64, .int 0, .ref (8 + b), .int 0, .ref 15]) rfl ?_
          refine am_copy 64 (am_at hc_A_submit 42 rfl) (tw 230 rfl rfl) (tw 220 rfl rfl) (tw 219 rfl rfl) (tw 7 rfl rfl) rfl (by rw [hsh]) (by decide) (by omega) rfl (Nat.le_of_ble_eq_true rfl) (by rw [hsh]; decide) (by decide) (Nat.le_of_ble_eq_true rfl) ?_
          rw [am_cp_tb]
          refine am_go cd_A_submit hc_A_submit 43 1 (pc' := 82) (L' := [some (.ref 0), some (.int (nI b)), some (.int (-1))]) (st' := [.ref 0]) rfl ?_
          refine am_getf 0 5 k_r0 (am_at hc_A_submit 44 rfl) rfl (by decide) rfl (by decide) k_ok0 (Or.inl (tw 80 rfl rfl)) rfl ?_
          refine am_go cd_A_submit hc_A_submit 45 2 (pc' := 87) (L' := [some (.ref 0), some (.int (nI b)), some (.int (-1))]) (st' := [.ref 0, .int (nI b), .ref 6]) rfl ?_
          refine am_getf 0 7 k_r0 (am_at hc_A_submit 47 rfl) rfl (by decide) rfl (by decide) k_ok0 (Or.inl (tw 82 rfl rfl)) rfl ?_
          refine am_getf 1 4 k_r1 (am_at hc_A_submit 48 rfl) rfl (by decide) rfl (by decide) k_ok1 (Or.inr ⟨_, tn 30 rfl rfl⟩) (congrArg Value.int ((congrFun (am_tb_ne (by omega)) 4).trans ((am_u_o (by decide)).trans v1))) ?_
          refine am_iastore (b) (am_at hc_A_submit 49 rfl) rfl (by decide) rfl (by show b < 5; omega) (Nat.le_of_ble_eq_true rfl) ?_
          refine am_go cd_A_submit hc_A_submit 50 1 (pc' := 95) (L' := [some (.ref 0), some (.int (nI b)), some (.int (-1))]) (st' := [.int (-1)]) rfl ?_
          exact am_iret (am_at hc_A_submit 51 rfl) rfl rfl ⟨rfl, rfl, rfl, (hA2.wt hb5 g2 (fun s hs => (congrFun (am_u_ne 15 (by decide)) s).trans (v2 s hs))).pt, (hf2.tr (fA.t (by omega))).tr (fA.u (by decide))⟩
        · have hyes : esc b < zI (tb 63) := Int32.not_le.mp q4
          simp only [if_pos hyes]
          refine am_go cd_A_submit hc_A_submit 30 1 (pc' := 60) (L' := [some (.ref 0), some (.int (nI b)), some (.int (-1))]) (st' := [.int (-3)]) rfl ?_
          exact am_iret (am_at hc_A_submit 31 rfl) rfl rfl ⟨rfl, rfl, rfl, hA2, hf2⟩
    · simp only [if_neg hb]
      refine am_if_ne 17 (am_at hc_A_submit 5 rfl) (by decide) (fun q1 => absurd rfl q1) (fun q1 => ?_)
      have hno : ¬ opB false v := fun z => hb z.2
      simp only [subA, subW, subP, if_neg hno]
      refine am_go cd_A_submit hc_A_submit 6 1 (pc' := 16) (L' := [some (.ref 0), some (.int v), none]) (st' := [.int (-2)]) rfl ?_
      exact am_iret (am_at hc_A_submit 7 rfl) rfl rfl ⟨rfl, rfl, rfl, h, fA.rf⟩
def wf (wt : Nat → Nat → Int) (res : Nat → Int) (lo : Int) : Int := (gs wt res lo 5 63 + 46655) / 46656
theorem gs63 {wt : Nat → Nat → Int} {res : Nat → Int} (hwt : ∀ b, b < 5 → tb_ok (wt b)) (hres : ∀ j, j < 6 → 0 ≤ res j ∧ res j ≤ 999) (lo : Int) : 0 ≤ gs wt res lo 5 63 ∧ gs wt res lo 5 63 ≤ 279656064 := by
  have := gs_b hwt hres lo 5 (by decide) 63 (by decide)
  have e : pcn 63 = 6 := rfl
  rw [e] at this; omega
set_option maxHeartbeats 4000000 in
theorem c_A_welfare {l : Launch} {x : am_X} {e L : Nat} {d : am_D} {cash esc pd pt ow : Nat → Int32} {res : Nat → Int} {wt : Nat → Nat → Int} {T : Nat → Nat} {n : Nat} {se : Int32} {cl : Bool} (h : RA cash esc pd pt ow res wt T n se cl d) (v : Int32) : cM l x (e + 3) L m_A_welfare [.ref 0, .int v] d (fun r d' => r = some (.int (if v = -1 ∨ isB v then zI (wf wt res v.toInt) else -2)) ∧ RA cash esc pd pt ow res wt T n se cl d' ∧ fA d d') := by
  obtain ⟨h1, h2, h3, h4, h5, h6, h7, h8, h9, h10, h11⟩ := id h
  refine cM.go (by decide) (by simp [Value.category]) (Nat.le_of_ble_eq_true rfl) ?_
  have hwt : ∀ b, b < 5 → tb_ok (wt b) := fun b hb => (h7 b hb).1
  have hres : ∀ j, j < 6 → 0 ≤ res j ∧ res j ≤ 999 := fun j hj => (h6 j hj).2
  have main : -1 ≤ v.toInt → v.toInt ≤ 4 → cW l x (e + 3) L m_A_welfare 15 [some (.ref 0), some (.int v)] [] d (fun r d' => r = some (.int (zI (wf wt res v.toInt))) ∧ RA cash esc pd pt ow res wt T n se cl d' ∧ fA d d') := by
    intro g1 g2
    generalize hz : v.toInt = z at g1 g2 ⊢
    have hv : v = zI z := by rw [← hz]; exact zI_of v
    subst hv
    refine am_go cd_A_welfare hc_A_welfare 8 1 (pc' := 16) (L' := [some (.ref 0), some (.int (zI z))]) (st' := [.ref 0]) rfl ?_
    refine am_getf 0 8 k_r0 (am_at hc_A_welfare 9 rfl) rfl (by decide) rfl (by decide) k_ok0 (Or.inl (tw 83 rfl rfl)) rfl ?_
    refine am_go cd_A_welfare hc_A_welfare 10 1 (pc' := 20) (L' := [some (.ref 0), some (.int (zI z))]) (st' := [.ref 0, .ref 36]) rfl ?_
    refine am_getf 0 6 k_r0 (am_at hc_A_welfare 11 rfl) rfl (by decide) rfl (by decide) k_ok0 (Or.inl (tw 81 rfl rfl)) rfl ?_
    refine am_go cd_A_welfare hc_A_welfare 12 1 (pc' := 24) (L' := [some (.ref 0), some (.int (zI z))]) (st' := [.ref 0, .ref 7, .ref 36]) rfl ?_
    refine am_getf 0 2 k_r0 (am_at hc_A_welfare 13 rfl) rfl (by decide) rfl (by decide) k_ok0 (Or.inl (tw 77 rfl rfl)) rfl ?_
    refine am_go cd_A_welfare hc_A_welfare 14 1 (pc' := 28) (L' := [some (.ref 0), some (.int (zI z))]) (st' := [.int (zI z), .ref 3, .ref 7, .ref 36]) rfl ?_
    refine cW.callV (st := []) [.ref 7, .ref 3, .int (zI z)] (am_at hc_A_welfare 15 rfl) g_S_greatestScore (Or.inl (tw 243 rfl rfl)) (tw 244 rfl rfl) (tw 245 rfl rfl) 2 k_r2 rfl (by decide) rfl rfl rfl rfl (Nat.le_of_ble_eq_true rfl) (c_S_greatestScore wt res (z) (by omega) (by omega) (fun b hb s hs => ((h).2.2.2.2.2.2.1 b hb).2 s hs) (fun b hb => ((h).2.2.2.2.2.2.1 b hb).1) (fun j hj => ((h).2.2.2.2.2.1 j hj).1) (fun j hj => ((h).2.2.2.2.2.1 j hj).2) (h).2.2.2.2.2.2.2.2.2.2) ?_
    rintro _ d1 ⟨rfl, ho⟩
    show cW _ _ (e + 3) _ m_A_welfare 31 [some (.ref 0), some (.int (zI z))] [.int (zI (gs wt res (z) 5 63))] _ _
    have hb := gs63 hwt hres z
    refine cW.callS1 34 [.int (zI ((gs wt res z 5 63 + 46655) / 46656))] (st := []) [.int (zI (gs wt res (z) 5 63))] (am_at hc_A_welfare 16 rfl) g_S_welfareIn (Or.inl (tw 253 rfl rfl)) (tw 254 rfl rfl) rfl rfl (Nat.le_of_ble_eq_true rfl) (c_S_welfareIn (gs wt res z 5 63) (by omega) (by omega)) rfl rfl ?_
    exact am_iret (am_at hc_A_welfare 17 rfl) rfl rfl ⟨rfl, rfl, rfl, h.off (fun j _ => congrFun (ho 0 (by decide) (by decide)) j) (fun a ha => ho a (by omega) (by omega)) (congrFun (ho 13 (by decide) (by decide)) 1), fun a ha => ho a (by omega) (by omega)⟩
  refine am_go cd_A_welfare hc_A_welfare 0 2 (pc' := 2) (L' := [some (.ref 0), some (.int v)]) (st' := [.int (-1), .int v]) rfl ?_
  refine am_icmp_eq 15 (am_at hc_A_welfare 2 rfl) (by decide) (fun q1 => ?_) (fun q1 => ?_)
  · have hok : v = -1 ∨ isB v := Or.inl q1
    simp only [if_pos hok]
    have e1 : v.toInt = -1 := by rw [q1]; rfl
    exact main (by omega) (by omega)
  · skip
    refine am_go cd_A_welfare hc_A_welfare 3 1 (pc' := 6) (L' := [some (.ref 0), some (.int v)]) (st' := [.int v]) rfl ?_
    refine cW.callS1 9 [.int (if isB v then 1 else 0)] (st := []) [.int v] (am_at hc_A_welfare 4 rfl) g_A_isBidder (Or.inl (tw 113 rfl rfl)) (tw 114 rfl rfl) rfl rfl (Nat.le_of_ble_eq_true rfl) (c_isB v) rfl rfl ?_
    by_cases hb : isB v
    · simp only [if_pos hb]
      have hok : v = -1 ∨ isB v := Or.inr hb
      simp only [if_pos hok]
      refine am_if_ne 15 (am_at hc_A_welfare 5 rfl) (by decide) (fun q2 => ?_) (fun q2 => absurd q2 (by decide))
      have e1 : 0 ≤ v.toInt := by have := Int32.le_iff_toInt_le.mp hb.1; simpa using this
      have e2 : v.toInt < 5 := by have := Int32.lt_iff_toInt_lt.mp hb.2; exact this
      exact main (by omega) (by omega)
    · simp only [if_neg hb]
      have hno : ¬ (v = -1 ∨ isB v) := fun z => z.elim q1 hb
      simp only [if_neg hno]
      refine am_if_ne 15 (am_at hc_A_welfare 5 rfl) (by decide) (fun q2 => absurd rfl q2) (fun q2 => ?_)
      refine am_go cd_A_welfare hc_A_welfare 6 1 (pc' := 14) (L' := [some (.ref 0), some (.int v)]) (st' := [.int (-2)]) rfl ?_
      exact am_iret (am_at hc_A_welfare 7 rfl) rfl rfl ⟨rfl, rfl, rfl, h, fA.rf⟩
end
section
/-- the items whose owner is v, as a set -/
def sto (ow : Nat → Int32) (v : Int32) : Nat → Nat
  | 0 => 0
  | k + 1 => if ow k = v then sto ow v k ||| 2 ^ k else sto ow v k
theorem sto_lt (ow : Nat → Int32) (v : Int32) : ∀ k, k ≤ 6 → sto ow v k < 2 ^ k
  | 0, _ => Nat.zero_lt_one
  | k + 1, h => by
    have ih := sto_lt ow v k (by omega)
    have e : 2 ^ (k + 1) = 2 ^ k + 2 ^ k := by rw [Nat.pow_succ]; omega
    unfold sto
    split
    · exact Nat.or_lt_two_pow (by omega) (by have := Nat.pow_pos (n := k) (show 0 < 2 by decide); omega)
    · omega
theorem nI_one : ∀ k, k < 6 → (1 : Int32) <<< (nI k &&& 31) = nI (2 ^ k) := by decide +kernel
set_option maxHeartbeats 4000000 in
theorem c_A_setOf {l : Launch} {x : am_X} {e L : Nat} {d : am_D} {cash esc pd pt ow : Nat → Int32} {res : Nat → Int} {wt : Nat → Nat → Int} {T : Nat → Nat} {n : Nat} {se : Int32} {cl : Bool} (h : RA cash esc pd pt ow res wt T n se cl d) (v : Int32) : cM l x e L m_A_setOf [.ref 0, .int v] d (cR (some (.int (nI (sto ow v 6)))) d) := by
  obtain ⟨h1, h2, h3, h4, h5, h6, h7, h8, h9, h10, h11⟩ := id h
  refine cM.go (by decide) (by simp [Value.category]) (Nat.le_of_ble_eq_true rfl) ?_
  refine am_go cd_A_setOf hc_A_setOf 0 4 (pc' := 4) (L' := [some (.ref 0), some (.int v), some (.int 0), some (.int 0)]) (st' := []) rfl ?_
  have loop : ∀ q k, k + q = 6 → cW l x e L m_A_setOf 4 [some (.ref 0), some (.int v), some (.int (nI (sto ow v k))), some (.int (nI k))] [] d (cR (some (.int (nI (sto ow v 6)))) d) := by
    intro q
    induction q with
    | zero =>
      intro k hk
      have hk5 : k = 6 := by omega
      subst hk5
      refine am_go cd_A_setOf hc_A_setOf 4 2 (pc' := 7) (L' := [some (.ref 0), some (.int v), some (.int (nI (sto ow v 6))), some (.int (nI 6))]) (st' := [.int 6, .int (nI 6)]) rfl ?_
      refine am_icmp_ge 32 (am_at hc_A_setOf 6 rfl) (by decide) (fun q1 => ?_) (fun q1 => absurd (nI_le (a := 6) (b := 6) (by omega) (by omega)) q1)
      refine am_go cd_A_setOf hc_A_setOf 21 1 (pc' := 33) (L' := [some (.ref 0), some (.int v), some (.int (nI (sto ow v 6))), some (.int (nI 6))]) (st' := [.int (nI (sto ow v 6))]) rfl ?_
      exact am_iret (am_at hc_A_setOf 22 rfl) rfl rfl (cR_in rfl rfl)
    | succ q ih =>
      intro k hk
      refine am_go cd_A_setOf hc_A_setOf 4 2 (pc' := 7) (L' := [some (.ref 0), some (.int v), some (.int (nI (sto ow v k))), some (.int (nI k))]) (st' := [.int 6, .int (nI k)]) rfl ?_
      refine am_icmp_ge 32 (am_at hc_A_setOf 6 rfl) (by decide) (fun q1 => absurd q1 (nI_ge (a := k) (b := 6) (by omega) (by omega))) (fun q1 => ?_)
      refine am_go cd_A_setOf hc_A_setOf 7 1 (pc' := 11) (L' := [some (.ref 0), some (.int v), some (.int (nI (sto ow v k))), some (.int (nI k))]) (st' := [.ref 0]) rfl ?_
      refine am_getf 0 3 k_r0 (am_at hc_A_setOf 8 rfl) rfl (by decide) rfl (by decide) k_ok0 (Or.inl (tw 78 rfl rfl)) rfl ?_
      refine am_go cd_A_setOf hc_A_setOf 9 1 (pc' := 15) (L' := [some (.ref 0), some (.int v), some (.int (nI (sto ow v k))), some (.int (nI k))]) (st' := [.int (nI k), .ref 4]) rfl ?_
      refine am_iaload (k) (am_at hc_A_setOf 10 rfl) rfl (Or.inl (by decide)) rfl (by show k < 6; omega) (Nat.le_of_ble_eq_true rfl) ?_
      rw [show d 4 k = ow k from h5 k (by omega)]
      refine am_go cd_A_setOf hc_A_setOf 11 1 (pc' := 17) (L' := [some (.ref 0), some (.int v), some (.int (nI (sto ow v k))), some (.int (nI k))]) (st' := [.int v, .int (ow k)]) rfl ?_
      refine am_icmp_ne 26 (am_at hc_A_setOf 12 rfl) (by decide) (fun q2 => ?_) (fun q2 => ?_)
      · have e1 : sto ow v (k + 1) = sto ow v k := by show (if ow k = v then _ else _) = _; rw [if_neg q2]
        refine am_go cd_A_setOf hc_A_setOf 19 2 (pc' := 4) (L' := [some (.ref 0), some (.int v), some (.int (nI (sto ow v k))), some (.int (nI k + 1))]) (st' := []) rfl ?_
        rw [nI_1, ← e1]
        exact ih (k + 1) (by omega)
      · have e1 : sto ow v (k + 1) = sto ow v k ||| 2 ^ k := by show (if ow k = v then _ else _) = _; rw [if_pos q2]
        refine am_go cd_A_setOf hc_A_setOf 13 4 (pc' := 24) (L' := [some (.ref 0), some (.int v), some (.int (nI (sto ow v k))), some (.int (nI k))]) (st' := [.int (1 <<< (nI k &&& 31)), .int (nI (sto ow v k))]) rfl ?_
        rw [nI_one k (by omega)]
        refine am_go cd_A_setOf hc_A_setOf 17 1 (pc' := 25) (L' := [some (.ref 0), some (.int v), some (.int (nI (sto ow v k))), some (.int (nI k))]) (st' := [.int (nI (sto ow v k) ||| nI (2 ^ k))]) rfl ?_
        rw [show nI (sto ow v k) ||| nI (2 ^ k) = nI (sto ow v (k + 1)) from by rw [e1]; exact nI_or _ _]
        refine am_go cd_A_setOf hc_A_setOf 18 3 (pc' := 4) (L' := [some (.ref 0), some (.int v), some (.int (nI (sto ow v (k + 1)))), some (.int (nI k + 1))]) (st' := []) rfl ?_
        rw [nI_1]
        exact ih (k + 1) (by omega)
  exact loop 6 0 rfl
/-- what bidder b pays, the owners and the greatest welfare given -/
def payb (wt : Nat → Nat → Int) (res : Nat → Int) (ow : Nat → Int32) (W : Int) (b : Nat) : Int32 := zI (wf wt res b - W + wt b (sto ow (nI b) 6))
set_option maxHeartbeats 4000000 in
theorem c_A_settle {l : Launch} {x : am_X} {e L : Nat} {d : am_D} {cash esc pd pt ow : Nat → Int32} {res : Nat → Int} {wt : Nat → Nat → Int} {T : Nat → Nat} {n : Nat} {se : Int32} {cl : Bool} (h : RA cash esc pd pt ow res wt T n se cl d) {b : Nat} (hb5 : b < 5) (W : Int) : cM l x (e + 3) L m_A_settle [.ref 0, .int (nI b), .int (zI W)] d (fun r d' => r = none ∧ RA (upd cash b (cash b + (esc b - payb wt res ow W b))) (upd esc b 0) (upd pd b (payb wt res ow W b)) pt ow res wt T n (se + payb wt res ow W b) cl d' ∧ fA d d') := by
  obtain ⟨h1, h2, h3, h4, h5, h6, h7, h8, h9, h10, h11⟩ := id h
  refine cM.go (by decide) (by simp [Value.category]) (Nat.le_of_ble_eq_true rfl) ?_
  have hwt : ∀ b, b < 5 → tb_ok (wt b) := fun b hb => (h7 b hb).1
  have hres : ∀ j, j < 6 → 0 ≤ res j ∧ res j ≤ 999 := fun j hj => (h6 j hj).2
  have hbz : nI b = zI (b : Int) := nI_zI b
  refine am_go cd_A_settle hc_A_settle 0 1 (pc' := 1) (L' := [some (.ref 0), some (.int (nI b)), some (.int (zI W)), none, none]) (st' := [.ref 0]) rfl ?_
  refine am_getf 0 8 k_r0 (am_at hc_A_settle 1 rfl) rfl (by decide) rfl (by decide) k_ok0 (Or.inl (tw 83 rfl rfl)) rfl ?_
  refine am_go cd_A_settle hc_A_settle 2 1 (pc' := 5) (L' := [some (.ref 0), some (.int (nI b)), some (.int (zI W)), none, none]) (st' := [.ref 0, .ref 36]) rfl ?_
  refine am_getf 0 6 k_r0 (am_at hc_A_settle 3 rfl) rfl (by decide) rfl (by decide) k_ok0 (Or.inl (tw 81 rfl rfl)) rfl ?_
  refine am_go cd_A_settle hc_A_settle 4 1 (pc' := 9) (L' := [some (.ref 0), some (.int (nI b)), some (.int (zI W)), none, none]) (st' := [.ref 0, .ref 7, .ref 36]) rfl ?_
  refine am_getf 0 2 k_r0 (am_at hc_A_settle 5 rfl) rfl (by decide) rfl (by decide) k_ok0 (Or.inl (tw 77 rfl rfl)) rfl ?_
  refine am_go cd_A_settle hc_A_settle 6 1 (pc' := 13) (L' := [some (.ref 0), some (.int (nI b)), some (.int (zI W)), none, none]) (st' := [.int (nI b), .ref 3, .ref 7, .ref 36]) rfl ?_
  rw [hbz]
  refine cW.callV (st := []) [.ref 7, .ref 3, .int (zI b)] (am_at hc_A_settle 7 rfl) g_S_greatestScore (Or.inl (tw 243 rfl rfl)) (tw 244 rfl rfl) (tw 245 rfl rfl) 2 k_r2 rfl (by decide) rfl rfl rfl rfl (Nat.le_of_ble_eq_true rfl) (c_S_greatestScore wt res (b) (by omega) (by omega) (fun b hb s hs => ((h).2.2.2.2.2.2.1 b hb).2 s hs) (fun b hb => ((h).2.2.2.2.2.2.1 b hb).1) (fun j hj => ((h).2.2.2.2.2.1 j hj).1) (fun j hj => ((h).2.2.2.2.2.1 j hj).2) (h).2.2.2.2.2.2.2.2.2.2) ?_
  rintro _ d1 ⟨rfl, ho⟩
  show cW _ _ (e + 3) _ m_A_settle 16 [some (.ref 0), some (.int (zI b)), some (.int (zI W)), none, none] [.int (zI (gs wt res (b) 5 63))] _ _
  have hA : RA cash esc pd pt ow res wt T n se cl d1 := h.off (fun j _ => congrFun (ho 0 (by decide) (by decide)) j) (fun a ha => ho a (by omega) (by omega)) (congrFun (ho 13 (by decide) (by decide)) 1)
  have hf1 : fA d d1 := fun a ha => ho a (by omega) (by omega)
  have hgb := gs63 hwt hres (b : Int)
  refine cW.callS1 19 [.int (zI (wf wt res b))] (st := []) [.int (zI (gs wt res (b) 5 63))] (am_at hc_A_settle 8 rfl) g_S_welfareIn (Or.inl (tw 253 rfl rfl)) (tw 254 rfl rfl) rfl rfl (Nat.le_of_ble_eq_true rfl) (c_S_welfareIn (gs wt res b 5 63) (by omega) (by omega)) rfl rfl ?_
  rw [← hbz]
  have hsh := SH_w L b hb5
  refine am_go cd_A_settle hc_A_settle 9 4 (pc' := 23) (L' := [some (.ref 0), some (.int (nI b)), some (.int (zI W)), some (.int (zI (wf wt res b))), none]) (st' := [.int (zI (wf wt res b) - zI W)]) rfl ?_
  rw [show zI (wf wt res b) - zI W = zI (wf wt res b - W) from zI_sub _ _]
  refine am_go cd_A_settle hc_A_settle 13 1 (pc' := 24) (L' := [some (.ref 0), some (.int (nI b)), some (.int (zI W)), some (.int (zI (wf wt res b))), none]) (st' := [.ref 0, .int (zI (wf wt res b - W))]) rfl ?_
  refine am_getf 0 6 k_r0 (am_at hc_A_settle 14 rfl) rfl (by decide) rfl (by decide) k_ok0 (Or.inl (tw 81 rfl rfl)) rfl ?_
  refine am_go cd_A_settle hc_A_settle 15 1 (pc' := 28) (L' := [some (.ref 0), some (.int (nI b)), some (.int (zI W)), some (.int (zI (wf wt res b))), none]) (st' := [.int (nI b), .ref 7, .int (zI (wf wt res b - W))]) rfl ?_
  refine am_aaload (b) (8 + b) (am_at hc_A_settle 16 rfl) rfl (by decide) rfl (by show b < 5; omega) (Nat.le_of_ble_eq_true rfl) (if_pos hb5) ?_
  refine am_go cd_A_settle hc_A_settle 17 2 (pc' := 31) (L' := [some (.ref 0), some (.int (nI b)), some (.int (zI W)), some (.int (zI (wf wt res b))), none]) (st' := [.int (nI b), .ref 0, .ref (8 + b), .int (zI (wf wt res b - W))]) rfl ?_
  refine cW.callV1 34 [.int (nI (sto ow (nI b) 6)), .ref (8 + b), .int (zI (wf wt res b - W))] (st := [.ref (8 + b), .int (zI (wf wt res b - W))]) [.int (nI b)] (am_at hc_A_settle 19 rfl) g_A_setOf (Or.inl (tw 268 rfl rfl)) (tw 270 rfl rfl) (tp 17 rfl rfl) 0 k_r0 rfl (by decide) rfl rfl rfl rfl (Nat.le_of_ble_eq_true rfl) (c_A_setOf hA (nI b)) rfl rfl ?_
  have hst := sto_lt ow (nI b) 6 (by decide)
  refine am_iaload (sto ow (nI b) 6) (am_at hc_A_settle 20 rfl) (by rw [hsh]) (Or.inl (by omega)) rfl (by rw [hsh]; exact hst) (by rw [hsh]; decide) ?_
  rw [show d1 (8 + b) (sto ow (nI b) 6) = zI (wt b (sto ow (nI b) 6)) from (hA.2.2.2.2.2.2.1 b hb5).2 _ hst]
  refine am_go cd_A_settle hc_A_settle 21 1 (pc' := 36) (L' := [some (.ref 0), some (.int (nI b)), some (.int (zI W)), some (.int (zI (wf wt res b))), none]) (st' := [.int (zI (wf wt res b - W) + zI (wt b (sto ow (nI b) 6)))]) rfl ?_
  rw [show zI (wf wt res b - W) + zI (wt b (sto ow (nI b) 6)) = payb wt res ow W b from zI_add _ _]
  refine am_go cd_A_settle hc_A_settle 22 2 (pc' := 39) (L' := [some (.ref 0), some (.int (nI b)), some (.int (zI W)), some (.int (zI (wf wt res b))), some (.int (payb wt res ow W b))]) (st' := [.ref 0]) rfl ?_
  refine am_getf 0 4 k_r0 (am_at hc_A_settle 24 rfl) rfl (by decide) rfl (by decide) k_ok0 (Or.inl (tw 79 rfl rfl)) rfl ?_
  refine am_go cd_A_settle hc_A_settle 25 2 (pc' := 45) (L' := [some (.ref 0), some (.int (nI b)), some (.int (zI W)), some (.int (zI (wf wt res b))), some (.int (payb wt res ow W b))]) (st' := [.int (payb wt res ow W b), .int (nI b), .ref 5]) rfl ?_
  refine am_iastore (b) (am_at hc_A_settle 27 rfl) rfl (by decide) rfl (by show b < 5; omega) (Nat.le_of_ble_eq_true rfl) ?_
  have hA2 := hA.pd (k := b) (v := payb wt res ow W b)
  have hf2 : fA d (am_u d1 5 b (payb wt res ow W b)) := hf1.tr (fA.u (by decide))
  generalize am_u d1 5 b (payb wt res ow W b) = d2 at hA2 hf2 ⊢
  refine am_go cd_A_settle hc_A_settle 28 1 (pc' := 47) (L' := [some (.ref 0), some (.int (nI b)), some (.int (zI W)), some (.int (zI (wf wt res b))), some (.int (payb wt res ow W b))]) (st' := [.ref 0]) rfl ?_
  refine am_getf 0 1 k_r0 (am_at hc_A_settle 29 rfl) rfl (by decide) rfl (by decide) k_ok0 (Or.inl (tw 76 rfl rfl)) rfl ?_
  refine am_go cd_A_settle hc_A_settle 30 2 (pc' := 52) (L' := [some (.ref 0), some (.int (nI b)), some (.int (zI W)), some (.int (zI (wf wt res b))), some (.int (payb wt res ow W b))]) (st' := [.int (nI b), .ref 2, .int (nI b), .ref 2]) rfl ?_
  refine am_iaload (b) (am_at hc_A_settle 32 rfl) rfl (Or.inl (by decide)) rfl (by show b < 5; omega) (Nat.le_of_ble_eq_true rfl) ?_
  rw [show d2 2 b = esc b from hA2.2.1 b hb5]
  refine am_go cd_A_settle hc_A_settle 33 2 (pc' := 56) (L' := [some (.ref 0), some (.int (nI b)), some (.int (zI W)), some (.int (zI (wf wt res b))), some (.int (payb wt res ow W b))]) (st' := [.int (esc b - payb wt res ow W b), .int (nI b), .ref 2]) rfl ?_
  refine am_iastore (b) (am_at hc_A_settle 35 rfl) rfl (by decide) rfl (by show b < 5; omega) (Nat.le_of_ble_eq_true rfl) ?_
  have hA3 := hA2.esc (k := b) (v := esc b - payb wt res ow W b)
  have hf3 : fA d (am_u d2 2 b (esc b - payb wt res ow W b)) := hf2.tr (fA.u (by decide))
  generalize am_u d2 2 b (esc b - payb wt res ow W b) = d3 at hA3 hf3 ⊢
  refine am_go cd_A_settle hc_A_settle 36 2 (pc' := 59) (L' := [some (.ref 0), some (.int (nI b)), some (.int (zI W)), some (.int (zI (wf wt res b))), some (.int (payb wt res ow W b))]) (st' := [.ref 0, .ref 0]) rfl ?_
  refine am_getf 0 9 k_r0 (am_at hc_A_settle 38 rfl) rfl (by decide) rfl (by decide) k_ok0 (Or.inl (tw 84 rfl rfl)) (congrArg Value.int hA3.2.2.2.2.2.2.2.2.1) ?_
  refine am_go cd_A_settle hc_A_settle 39 2 (pc' := 65) (L' := [some (.ref 0), some (.int (nI b)), some (.int (zI W)), some (.int (zI (wf wt res b))), some (.int (payb wt res ow W b))]) (st' := [.int (se + payb wt res ow W b), .ref 0]) rfl ?_
  refine am_putI 0 9 k_r0 (am_at hc_A_settle 41 rfl) rfl (by decide) rfl (by decide) k_ok0 (tw 84 rfl rfl) rfl rfl rfl rfl ?_
  have hA4 := hA3.se (v := se + payb wt res ow W b)
  have hf4 : fA d (am_u d3 0 9 (se + payb wt res ow W b)) := hf3.tr (fA.u (by decide))
  generalize am_u d3 0 9 (se + payb wt res ow W b) = d4 at hA4 hf4 ⊢
  refine am_go cd_A_settle hc_A_settle 42 2 (pc' := 70) (L' := [some (.ref 0), some (.int (nI b)), some (.int (zI W)), some (.int (zI (wf wt res b))), some (.int (payb wt res ow W b))]) (st' := [.int (nI b), .ref 0]) rfl ?_
  refine cW.callV (st := []) [.int (nI b)] (am_at hc_A_settle 44 rfl) g_A_giveBack (Or.inl (tw 133 rfl rfl)) (tw 135 rfl rfl) (tp 1 rfl rfl) 0 k_r0 rfl (by decide) rfl rfl rfl rfl (Nat.le_of_ble_eq_true rfl) (c_A_giveBack hA4 hb5) ?_
  rintro _ d5 ⟨rfl, hA5, hf5⟩
  show cW _ _ (e + 3) _ m_A_settle 73 [some (.ref 0), some (.int (nI b)), some (.int (zI W)), some (.int (zI (wf wt res b))), some (.int (payb wt res ow W b))] [] _ _
  refine am_vret (am_at hc_A_settle 45 rfl) rfl ⟨rfl, rfl, rfl, ?_, hf4.tr hf5⟩
  have e1 : upd esc b (esc b - payb wt res ow W b) b = esc b - payb wt res ow W b := by unfold upd; rw [if_pos rfl]
  have e2 : upd (upd esc b (esc b - payb wt res ow W b)) b 0 = upd esc b 0 := by funext j; unfold upd; by_cases z : j = b <;> simp [z]
  rw [e1, e2] at hA5
  exact hA5
/-- the best allocation's number, its owners, the payments' sum -/
def bst (wt : Nat → Nat → Int) (res : Nat → Int) : Nat := (wf wt res (-1) * 46656 - gs wt res (-1) 5 63).toNat
def bow (wt : Nat → Nat → Int) (res : Nat → Int) : Nat → Int32 := fun j => zI (((bst wt res / 6 ^ (5 - j) % 6 : Nat) : Int) - 1)
def pays (p : Nat → Int32) (se : Int32) : Nat → Int32
  | 0 => se
  | k + 1 => pays p se k + p k
def bpay (wt : Nat → Nat → Int) (res : Nat → Int) : Nat → Int32 := payb wt res (bow wt res) (wf wt res (-1))
theorem bst_b {wt : Nat → Nat → Int} {res : Nat → Int} : bst wt res < 46656 ∧ (gs wt res (-1) 5 63 + 46655) / 46656 * 46656 - gs wt res (-1) 5 63 = bst wt res := by
  unfold bst wf
  omega
set_option maxHeartbeats 4000000 in
theorem c_A_close {l : Launch} {x : am_X} {e L : Nat} {d : am_D} {cash esc pd pt ow : Nat → Int32} {res : Nat → Int} {wt : Nat → Nat → Int} {T : Nat → Nat} {n : Nat} {se : Int32} {cl : Bool} (h : RA cash esc pd pt ow res wt T n se cl d) : cM l x (e + 4) L m_A_close [.ref 0] d (fun r d' => r = some (.int (if cl = false then zI (wf wt res (-1)) else -2)) ∧ RA (if cl = false then fun b => if b < 5 then cash b + (esc b - bpay wt res b) else cash b else cash) (if cl = false then fun b => if b < 5 then 0 else esc b else esc) (if cl = false then fun b => if b < 5 then bpay wt res b else pd b else pd) pt (if cl = false then bow wt res else ow) res wt T n (if cl = false then pays (bpay wt res) se 5 else se) true d' ∧ fA d d') := by
  obtain ⟨h1, h2, h3, h4, h5, h6, h7, h8, h9, h10, h11⟩ := id h
  refine cM.go (by decide) (by simp [Value.category]) (Nat.le_of_ble_eq_true rfl) ?_
  have hwt : ∀ b, b < 5 → tb_ok (wt b) := fun b hb => (h7 b hb).1
  have hres : ∀ j, j < 6 → 0 ≤ res j ∧ res j ≤ 999 := fun j hj => (h6 j hj).2
  refine am_go cd_A_close hc_A_close 0 1 (pc' := 1) (L' := [some (.ref 0), none, none, none]) (st' := [.ref 0]) rfl ?_
  refine am_getf 0 10 k_r0 (am_at hc_A_close 1 rfl) rfl (by decide) rfl (by decide) k_ok0 (Or.inl (tw 85 rfl rfl)) (congrArg Value.int h10) ?_
  cases cl with
  | true =>
    simp only [bI_t]
    simp only [Bool.true_eq_false, if_false]
    refine am_if_eq 10 (am_at hc_A_close 2 rfl) (by decide) (fun q0 => absurd q0 (by decide)) (fun q0 => ?_)
    refine am_go cd_A_close hc_A_close 3 1 (pc' := 9) (L' := [some (.ref 0), none, none, none]) (st' := [.int (-2)]) rfl ?_
    exact am_iret (am_at hc_A_close 4 rfl) rfl rfl ⟨rfl, rfl, rfl, h, fA.rf⟩
  | false =>
    simp only [bI_f]
    simp only [if_true]
    refine am_if_eq 10 (am_at hc_A_close 2 rfl) (by decide) (fun q0 => ?_) (fun q0 => absurd rfl q0)
    refine am_go cd_A_close hc_A_close 5 1 (pc' := 11) (L' := [some (.ref 0), none, none, none]) (st' := [.ref 0]) rfl ?_
    refine am_getf 0 8 k_r0 (am_at hc_A_close 6 rfl) rfl (by decide) rfl (by decide) k_ok0 (Or.inl (tw 83 rfl rfl)) rfl ?_
    refine am_go cd_A_close hc_A_close 7 1 (pc' := 15) (L' := [some (.ref 0), none, none, none]) (st' := [.ref 0, .ref 36]) rfl ?_
    refine am_getf 0 6 k_r0 (am_at hc_A_close 8 rfl) rfl (by decide) rfl (by decide) k_ok0 (Or.inl (tw 81 rfl rfl)) rfl ?_
    refine am_go cd_A_close hc_A_close 9 1 (pc' := 19) (L' := [some (.ref 0), none, none, none]) (st' := [.ref 0, .ref 7, .ref 36]) rfl ?_
    refine am_getf 0 2 k_r0 (am_at hc_A_close 10 rfl) rfl (by decide) rfl (by decide) k_ok0 (Or.inl (tw 77 rfl rfl)) rfl ?_
    refine am_go cd_A_close hc_A_close 11 1 (pc' := 23) (L' := [some (.ref 0), none, none, none]) (st' := [.int (-1), .ref 3, .ref 7, .ref 36]) rfl ?_
    refine cW.callV (st := []) [.ref 7, .ref 3, .int (-1)] (am_at hc_A_close 12 rfl) g_S_greatestScore (Or.inl (tw 243 rfl rfl)) (tw 244 rfl rfl) (tw 245 rfl rfl) 2 k_r2 rfl (by decide) rfl rfl rfl rfl (Nat.le_of_ble_eq_true rfl) (c_S_greatestScore wt res (-1) (by omega) (by omega) (fun b hb s hs => ((h).2.2.2.2.2.2.1 b hb).2 s hs) (fun b hb => ((h).2.2.2.2.2.2.1 b hb).1) (fun j hj => ((h).2.2.2.2.2.1 j hj).1) (fun j hj => ((h).2.2.2.2.2.1 j hj).2) (h).2.2.2.2.2.2.2.2.2.2) ?_
    rintro _ d1 ⟨rfl, ho⟩
    show cW _ _ (e + 4) _ m_A_close 26 [some (.ref 0), none, none, none] [.int (zI (gs wt res (-1) 5 63))] _ _
    have hA : RA cash esc pd pt ow res wt T n se false d1 := h.off (fun j _ => congrFun (ho 0 (by decide) (by decide)) j) (fun a ha => ho a (by omega) (by omega)) (congrFun (ho 13 (by decide) (by decide)) 1)
    have hf1 : fA d d1 := fun a ha => ho a (by omega) (by omega)
    have hgb := gs63 hwt hres (-1)
    have hbst := bst_b (wt := wt) (res := res)
    refine am_go cd_A_close hc_A_close 13 3 (pc' := 29) (L' := [some (.ref 0), some (.int (zI (gs wt res (-1) 5 63))), none, none]) (st' := [.ref 0, .int (zI (gs wt res (-1) 5 63))]) rfl ?_
    refine am_getf 0 3 k_r0 (am_at hc_A_close 16 rfl) rfl (by decide) rfl (by decide) k_ok0 (Or.inl (tw 78 rfl rfl)) rfl ?_
    refine cW.callS1 35 [] (st := []) [.int (zI (gs wt res (-1) 5 63)), .ref 4] (am_at hc_A_close 17 rfl) g_S_writeOwners (Or.inl (tw 260 rfl rfl)) (tw 261 rfl rfl) rfl rfl (Nat.le_of_ble_eq_true rfl) (c_S_writeOwners (gs wt res (-1) 5 63) (bst wt res) hbst.1 (by omega) (by omega) hbst.2) rfl rfl ?_
    have hA2 : RA cash esc pd pt (bow wt res) res wt T n se false (am_tb d1 4 6 (fun j => zI (((bst wt res / 6 ^ (5 - j) % 6 : Nat) : Int) - 1))) := hA.ow
    have hf2 : fA d (am_tb d1 4 6 (fun j => zI (((bst wt res / 6 ^ (5 - j) % 6 : Nat) : Int) - 1))) := hf1.tr (fA.t (by decide))
    generalize am_tb d1 4 6 (fun j => zI (((bst wt res / 6 ^ (5 - j) % 6 : Nat) : Int) - 1)) = d2 at hA2 hf2 ⊢
    refine am_go cd_A_close hc_A_close 18 1 (pc' := 36) (L' := [some (.ref 0), some (.int (zI (gs wt res (-1) 5 63))), none, none]) (st' := [.int (zI (gs wt res (-1) 5 63))]) rfl ?_
    refine cW.callS1 39 [.int (zI (wf wt res (-1)))] (st := []) [.int (zI (gs wt res (-1) 5 63))] (am_at hc_A_close 19 rfl) g_S_welfareIn (Or.inl (tw 253 rfl rfl)) (tw 254 rfl rfl) rfl rfl (Nat.le_of_ble_eq_true rfl) (c_S_welfareIn (gs wt res (-1) 5 63) (by omega) (by omega)) rfl rfl ?_
    refine am_go cd_A_close hc_A_close 20 3 (pc' := 42) (L' := [some (.ref 0), some (.int (zI (gs wt res (-1) 5 63))), some (.int (zI (wf wt res (-1)))), some (.int 0)]) (st' := []) rfl ?_
    have loop : ∀ q k d3, k + q = 5 → RA (fun b => if b < k then cash b + (esc b - bpay wt res b) else cash b) (fun b => if b < k then 0 else esc b) (fun b => if b < k then bpay wt res b else pd b) pt (bow wt res) res wt T n (pays (bpay wt res) se k) false d3 → fA d d3 → cW l x (e + 4) L m_A_close 42 [some (.ref 0), some (.int (zI (gs wt res (-1) 5 63))), some (.int (zI (wf wt res (-1)))), some (.int (nI k))] [] d3 (fun r d' => r = some (.int (zI (wf wt res (-1)))) ∧ RA (fun b => if b < 5 then cash b + (esc b - bpay wt res b) else cash b) (fun b => if b < 5 then 0 else esc b) (fun b => if b < 5 then bpay wt res b else pd b) pt (bow wt res) res wt T n (pays (bpay wt res) se 5) true d' ∧ fA d d') := by
      intro q
      induction q with
      | zero =>
        intro k d3 hk hA3 hf3
        have hk5 : k = 5 := by omega
        subst hk5
        refine am_go cd_A_close hc_A_close 23 2 (pc' := 44) (L' := [some (.ref 0), some (.int (zI (gs wt res (-1) 5 63))), some (.int (zI (wf wt res (-1)))), some (.int (nI 5))]) (st' := [.int 5, .int (nI 5)]) rfl ?_
        refine am_icmp_ge 59 (am_at hc_A_close 25 rfl) (by decide) (fun q1 => ?_) (fun q1 => absurd (nI_le (a := 5) (b := 5) (by omega) (by omega)) q1)
        refine am_go cd_A_close hc_A_close 32 2 (pc' := 61) (L' := [some (.ref 0), some (.int (zI (gs wt res (-1) 5 63))), some (.int (zI (wf wt res (-1)))), some (.int (nI 5))]) (st' := [.int 1, .ref 0]) rfl ?_
        refine am_putI 0 10 k_r0 (am_at hc_A_close 34 rfl) rfl (by decide) rfl (by decide) k_ok0 (tw 85 rfl rfl) rfl rfl rfl rfl ?_
        refine am_go cd_A_close hc_A_close 35 1 (pc' := 65) (L' := [some (.ref 0), some (.int (zI (gs wt res (-1) 5 63))), some (.int (zI (wf wt res (-1)))), some (.int (nI 5))]) (st' := [.int (zI (wf wt res (-1)))]) rfl ?_
        exact am_iret (am_at hc_A_close 36 rfl) rfl rfl ⟨rfl, rfl, rfl, hA3.cl (c := true), hf3.tr (fA.u (by decide))⟩
      | succ q ih =>
        intro k d3 hk hA3 hf3
        refine am_go cd_A_close hc_A_close 23 2 (pc' := 44) (L' := [some (.ref 0), some (.int (zI (gs wt res (-1) 5 63))), some (.int (zI (wf wt res (-1)))), some (.int (nI k))]) (st' := [.int 5, .int (nI k)]) rfl ?_
        refine am_icmp_ge 59 (am_at hc_A_close 25 rfl) (by decide) (fun q1 => absurd q1 (nI_ge (a := k) (b := 5) (by omega) (by omega))) (fun q1 => ?_)
        refine am_go cd_A_close hc_A_close 26 3 (pc' := 50) (L' := [some (.ref 0), some (.int (zI (gs wt res (-1) 5 63))), some (.int (zI (wf wt res (-1)))), some (.int (nI k))]) (st' := [.int (zI (wf wt res (-1))), .int (nI k), .ref 0]) rfl ?_
        refine cW.callV (st := []) [.int (nI k), .int (zI (wf wt res (-1)))] (am_at hc_A_close 29 rfl) g_A_settle (Or.inl (tw 264 rfl rfl)) (tw 266 rfl rfl) (tp 16 rfl rfl) 0 k_r0 rfl (by decide) rfl rfl rfl rfl (Nat.le_of_ble_eq_true rfl) (c_A_settle hA3 (by omega : k < 5) (wf wt res (-1))) ?_
        rintro _ d4 ⟨rfl, hA4, hf4⟩
        show cW _ _ (e + 4) _ m_A_close 53 [some (.ref 0), some (.int (zI (gs wt res (-1) 5 63))), some (.int (zI (wf wt res (-1)))), some (.int (nI k))] [] _ _
        refine am_go cd_A_close hc_A_close 30 2 (pc' := 42) (L' := [some (.ref 0), some (.int (zI (gs wt res (-1) 5 63))), some (.int (zI (wf wt res (-1)))), some (.int (nI k + 1))]) (st' := []) rfl ?_
        rw [nI_1]
        refine ih (k + 1) d4 (by omega) ?_ (hf3.tr hf4)
        have e0 : payb wt res (bow wt res) (wf wt res (-1)) k = bpay wt res k := rfl
        rw [e0] at hA4
        have e1 : upd (fun b => if b < k then cash b + (esc b - bpay wt res b) else cash b) k ((fun b => if b < k then cash b + (esc b - bpay wt res b) else cash b) k + ((fun b => if b < k then 0 else esc b) k - bpay wt res k)) = (fun b => if b < (k + 1) then cash b + (esc b - bpay wt res b) else cash b) := by
          funext b; unfold upd; by_cases z : b = k; · simp [z]
          by_cases z2 : b < k
          · simp [z, z2, show b < k + 1 by omega]
          · simp [z, z2, show ¬ b < k + 1 by omega]
        have e2 : upd (fun b => if b < k then 0 else esc b) k 0 = (fun b => if b < (k + 1) then 0 else esc b) := by
          funext b; unfold upd; by_cases z : b = k; · simp [z]
          by_cases z2 : b < k
          · simp [z, z2, show b < k + 1 by omega]
          · simp [z, z2, show ¬ b < k + 1 by omega]
        have e3 : upd (fun b => if b < k then bpay wt res b else pd b) k (bpay wt res k) = (fun b => if b < (k + 1) then bpay wt res b else pd b) := by
          funext b; unfold upd; by_cases z : b = k; · simp [z]
          by_cases z2 : b < k
          · simp [z, z2, show b < k + 1 by omega]
          · simp [z, z2, show ¬ b < k + 1 by omega]
        rw [e1, e2, e3] at hA4
        exact hA4
    exact loop 5 0 d2 rfl (by simp only [Nat.not_lt_zero, if_false]; exact hA2) hf2
end
section
theorem RM.cash {cash esc pd pt ow : Nat → Int32} {res : Nat → Int} {wt : Nat → Nat → Int} {T : Nat → Nat} {n : Nat} {se : Int32} {cl : Bool} {d : am_D} {k : Nat} {v : Int32} (h : RM cash esc pd pt ow res wt T n se cl d) : RM (upd cash k v) esc pd pt ow res wt T n se cl (am_u d 41 k v) := by
  obtain ⟨h1, h2, h3, h4, h5, h6, h7, h8, h9, h10⟩ := h
  exact ⟨upd_at h1, fun b hb => by rw [am_u_ne 42 (by decide)]; exact h2 b hb, fun b hb => by rw [am_u_ne 52 (by decide)]; exact h3 b hb, fun b hb => by rw [am_u_ne 46 (by decide)]; exact h4 b hb, fun b hb => by rw [am_u_ne 51 (by decide)]; exact h5 b hb, fun b hb => by rw [am_u_ne 43 (by decide)]; exact h6 b hb, fun b hb => ⟨(h7 b hb).1, fun s hs => by rw [am_u_ne 45 (by decide)]; exact (h7 b hb).2 s hs⟩, ⟨by rw [am_u_ne 40 (by decide)]; exact h8.1, h8.2.1, fun j hj => by rw [am_u_ne 44 (by decide)]; exact h8.2.2 j hj⟩, by rw [am_u_ne 40 (by decide)]; exact h9, by rw [am_u_ne 40 (by decide)]; exact h10⟩
theorem RM.esc {cash esc pd pt ow : Nat → Int32} {res : Nat → Int} {wt : Nat → Nat → Int} {T : Nat → Nat} {n : Nat} {se : Int32} {cl : Bool} {d : am_D} {k : Nat} {v : Int32} (h : RM cash esc pd pt ow res wt T n se cl d) : RM cash (upd esc k v) pd pt ow res wt T n se cl (am_u d 42 k v) := by
  obtain ⟨h1, h2, h3, h4, h5, h6, h7, h8, h9, h10⟩ := h
  exact ⟨fun b hb => by rw [am_u_ne 41 (by decide)]; exact h1 b hb, upd_at h2, fun b hb => by rw [am_u_ne 52 (by decide)]; exact h3 b hb, fun b hb => by rw [am_u_ne 46 (by decide)]; exact h4 b hb, fun b hb => by rw [am_u_ne 51 (by decide)]; exact h5 b hb, fun b hb => by rw [am_u_ne 43 (by decide)]; exact h6 b hb, fun b hb => ⟨(h7 b hb).1, fun s hs => by rw [am_u_ne 45 (by decide)]; exact (h7 b hb).2 s hs⟩, ⟨by rw [am_u_ne 40 (by decide)]; exact h8.1, h8.2.1, fun j hj => by rw [am_u_ne 44 (by decide)]; exact h8.2.2 j hj⟩, by rw [am_u_ne 40 (by decide)]; exact h9, by rw [am_u_ne 40 (by decide)]; exact h10⟩
theorem RM.pd {cash esc pd pt ow : Nat → Int32} {res : Nat → Int} {wt : Nat → Nat → Int} {T : Nat → Nat} {n : Nat} {se : Int32} {cl : Bool} {d : am_D} {k : Nat} {v : Int32} (h : RM cash esc pd pt ow res wt T n se cl d) : RM cash esc (upd pd k v) pt ow res wt T n se cl (am_u d 52 k v) := by
  obtain ⟨h1, h2, h3, h4, h5, h6, h7, h8, h9, h10⟩ := h
  exact ⟨fun b hb => by rw [am_u_ne 41 (by decide)]; exact h1 b hb, fun b hb => by rw [am_u_ne 42 (by decide)]; exact h2 b hb, upd_at h3, fun b hb => by rw [am_u_ne 46 (by decide)]; exact h4 b hb, fun b hb => by rw [am_u_ne 51 (by decide)]; exact h5 b hb, fun b hb => by rw [am_u_ne 43 (by decide)]; exact h6 b hb, fun b hb => ⟨(h7 b hb).1, fun s hs => by rw [am_u_ne 45 (by decide)]; exact (h7 b hb).2 s hs⟩, ⟨by rw [am_u_ne 40 (by decide)]; exact h8.1, h8.2.1, fun j hj => by rw [am_u_ne 44 (by decide)]; exact h8.2.2 j hj⟩, by rw [am_u_ne 40 (by decide)]; exact h9, by rw [am_u_ne 40 (by decide)]; exact h10⟩
theorem RM.pt {cash esc pd pt ow : Nat → Int32} {res : Nat → Int} {wt : Nat → Nat → Int} {T : Nat → Nat} {n : Nat} {se : Int32} {cl : Bool} {d : am_D} {k : Nat} {v : Int32} (h : RM cash esc pd pt ow res wt T n se cl d) : RM cash esc pd (upd pt k v) ow res wt T n se cl (am_u d 46 k v) := by
  obtain ⟨h1, h2, h3, h4, h5, h6, h7, h8, h9, h10⟩ := h
  exact ⟨fun b hb => by rw [am_u_ne 41 (by decide)]; exact h1 b hb, fun b hb => by rw [am_u_ne 42 (by decide)]; exact h2 b hb, fun b hb => by rw [am_u_ne 52 (by decide)]; exact h3 b hb, upd_at h4, fun b hb => by rw [am_u_ne 51 (by decide)]; exact h5 b hb, fun b hb => by rw [am_u_ne 43 (by decide)]; exact h6 b hb, fun b hb => ⟨(h7 b hb).1, fun s hs => by rw [am_u_ne 45 (by decide)]; exact (h7 b hb).2 s hs⟩, ⟨by rw [am_u_ne 40 (by decide)]; exact h8.1, h8.2.1, fun j hj => by rw [am_u_ne 44 (by decide)]; exact h8.2.2 j hj⟩, by rw [am_u_ne 40 (by decide)]; exact h9, by rw [am_u_ne 40 (by decide)]; exact h10⟩
theorem RM.ow {cash esc pd pt ow : Nat → Int32} {res : Nat → Int} {wt : Nat → Nat → Int} {T : Nat → Nat} {n : Nat} {se : Int32} {cl : Bool} {d : am_D} {k : Nat} {v : Int32} (h : RM cash esc pd pt ow res wt T n se cl d) : RM cash esc pd pt (upd ow k v) res wt T n se cl (am_u d 51 k v) := by
  obtain ⟨h1, h2, h3, h4, h5, h6, h7, h8, h9, h10⟩ := h
  exact ⟨fun b hb => by rw [am_u_ne 41 (by decide)]; exact h1 b hb, fun b hb => by rw [am_u_ne 42 (by decide)]; exact h2 b hb, fun b hb => by rw [am_u_ne 52 (by decide)]; exact h3 b hb, fun b hb => by rw [am_u_ne 46 (by decide)]; exact h4 b hb, upd_at h5, fun b hb => by rw [am_u_ne 43 (by decide)]; exact h6 b hb, fun b hb => ⟨(h7 b hb).1, fun s hs => by rw [am_u_ne 45 (by decide)]; exact (h7 b hb).2 s hs⟩, ⟨by rw [am_u_ne 40 (by decide)]; exact h8.1, h8.2.1, fun j hj => by rw [am_u_ne 44 (by decide)]; exact h8.2.2 j hj⟩, by rw [am_u_ne 40 (by decide)]; exact h9, by rw [am_u_ne 40 (by decide)]; exact h10⟩
theorem RM.se {cash esc pd pt ow : Nat → Int32} {res : Nat → Int} {wt : Nat → Nat → Int} {T : Nat → Nat} {n : Nat} {se : Int32} {cl : Bool} {d : am_D} {v : Int32} (h : RM cash esc pd pt ow res wt T n se cl d) : RM cash esc pd pt ow res wt T n v cl (am_u d 40 3 v) := by
  obtain ⟨h1, h2, h3, h4, h5, h6, h7, h8, h9, h10⟩ := h
  exact ⟨fun b hb => by rw [am_u_ne 41 (by decide)]; exact h1 b hb, fun b hb => by rw [am_u_ne 42 (by decide)]; exact h2 b hb, fun b hb => by rw [am_u_ne 52 (by decide)]; exact h3 b hb, fun b hb => by rw [am_u_ne 46 (by decide)]; exact h4 b hb, fun b hb => by rw [am_u_ne 51 (by decide)]; exact h5 b hb, fun b hb => by rw [am_u_ne 43 (by decide)]; exact h6 b hb, fun b hb => ⟨(h7 b hb).1, fun s hs => by rw [am_u_ne 45 (by decide)]; exact (h7 b hb).2 s hs⟩, ⟨(am_u_o (by decide)).trans h8.1, h8.2.1, fun j hj => by rw [am_u_ne 44 (by decide)]; exact h8.2.2 j hj⟩, am_u_i, (am_u_o (by decide)).trans h10⟩
theorem RM.cl {cash esc pd pt ow : Nat → Int32} {res : Nat → Int} {wt : Nat → Nat → Int} {T : Nat → Nat} {n : Nat} {se : Int32} {cl : Bool} {d : am_D} {c : Bool} (h : RM cash esc pd pt ow res wt T n se cl d) : RM cash esc pd pt ow res wt T n se c (am_u d 40 0 (bI c)) := by
  obtain ⟨h1, h2, h3, h4, h5, h6, h7, h8, h9, h10⟩ := h
  exact ⟨fun b hb => by rw [am_u_ne 41 (by decide)]; exact h1 b hb, fun b hb => by rw [am_u_ne 42 (by decide)]; exact h2 b hb, fun b hb => by rw [am_u_ne 52 (by decide)]; exact h3 b hb, fun b hb => by rw [am_u_ne 46 (by decide)]; exact h4 b hb, fun b hb => by rw [am_u_ne 51 (by decide)]; exact h5 b hb, fun b hb => by rw [am_u_ne 43 (by decide)]; exact h6 b hb, fun b hb => ⟨(h7 b hb).1, fun s hs => by rw [am_u_ne 45 (by decide)]; exact (h7 b hb).2 s hs⟩, ⟨(am_u_o (by decide)).trans h8.1, h8.2.1, fun j hj => by rw [am_u_ne 44 (by decide)]; exact h8.2.2 j hj⟩, (am_u_o (by decide)).trans h9, am_u_i⟩
theorem RM.res {cash esc pd pt ow : Nat → Int32} {res : Nat → Int} {wt : Nat → Nat → Int} {T : Nat → Nat} {n : Nat} {se : Int32} {cl : Bool} {d : am_D} {k : Nat} {v : Int} (hv : 0 ≤ v ∧ v ≤ 999) (h : RM cash esc pd pt ow res wt T n se cl d) : RM cash esc pd pt ow (fun j => if j = k then v else res j) wt T n se cl (am_u d 43 k (zI v)) := by
  obtain ⟨h1, h2, h3, h4, h5, h6, h7, h8, h9, h10⟩ := h
  exact ⟨fun b hb => by rw [am_u_ne 41 (by decide)]; exact h1 b hb, fun b hb => by rw [am_u_ne 42 (by decide)]; exact h2 b hb, fun b hb => by rw [am_u_ne 52 (by decide)]; exact h3 b hb, fun b hb => by rw [am_u_ne 46 (by decide)]; exact h4 b hb, fun b hb => by rw [am_u_ne 51 (by decide)]; exact h5 b hb, fun j hj => by
    dsimp only
    by_cases z : j = k
    · subst z; rw [am_u_i, if_pos rfl]; exact ⟨rfl, hv⟩
    · rw [am_u_o (fun q => z q.2), if_neg z]; exact h6 j hj, fun b hb => ⟨(h7 b hb).1, fun s hs => by rw [am_u_ne 45 (by decide)]; exact (h7 b hb).2 s hs⟩, ⟨by rw [am_u_ne 40 (by decide)]; exact h8.1, h8.2.1, fun j hj => by rw [am_u_ne 44 (by decide)]; exact h8.2.2 j hj⟩, by rw [am_u_ne 40 (by decide)]; exact h9, by rw [am_u_ne 40 (by decide)]; exact h10⟩
/-- a stretch of a row -/
def am_sg (d : am_D) (a o k : Nat) (F : Nat → Int32) : am_D := am_nd d a (fun j => if o ≤ j ∧ j < o + k then F (j - o) else d a j)
theorem am_sg_0 (d : am_D) (a o : Nat) (F : Nat → Int32) : am_sg d a o 0 F = d := by
  funext b; unfold am_sg am_nd
  by_cases h : b = a
  · subst h; rw [if_pos rfl]; funext j; rw [if_neg (by omega)]
  · simp [h]
theorem am_sg_s (d : am_D) (a o k : Nat) (F : Nat → Int32) : am_u (am_sg d a o k F) a (o + k) (F k) = am_sg d a o (k + 1) F := by
  funext b j; unfold am_u am_sg am_nd
  by_cases h1 : b = a
  · by_cases h2 : j = o + k
    · subst h2
      have e : o + k - o = k := by omega
      simp [h1, e]
    · by_cases h3 : o ≤ j ∧ j < o + k
      · have h4 : o ≤ j ∧ j < o + (k + 1) := by omega
        simp [h1, h2, h3, h4]
      · have h4 : ¬ (o ≤ j ∧ j < o + (k + 1)) := by omega
        simp [h1, h2, h3, h4]
  · simp [h1]
theorem am_sg_ne {d : am_D} {a o k b : Nat} {F : Nat → Int32} (h : b ≠ a) : am_sg d a o k F b = d b := by unfold am_sg; exact am_nd_ne h
theorem am_sg_in {d : am_D} {a o k j : Nat} {F : Nat → Int32} (h : j < k) : am_sg d a o k F a (o + j) = F j := by
  unfold am_sg; rw [am_nd_self, if_pos (by omega), show o + j - o = j by omega]
theorem am_sg_out {d : am_D} {a o k j : Nat} {F : Nat → Int32} (h : j < o ∨ o + k ≤ j) : am_sg d a o k F a j = d a j := by
  unfold am_sg; rw [am_nd_self, if_neg (by omega)]
theorem fM.s {d : am_D} {a o k : Nat} {F : Nat → Int32} (h : 40 ≤ a ∧ a < 53) : fM d (am_sg d a o k F) := fun b hb => am_sg_ne (by omega)
theorem RM.wt {cash esc pd pt ow : Nat → Int32} {res : Nat → Int} {wt : Nat → Nat → Int} {T : Nat → Nat} {n : Nat} {se : Int32} {cl : Bool} {d : am_D} {k : Nat} {v : Nat → Int} {F : Nat → Int32} (hk : k < 5) (hv : tb_ok v) (hF : ∀ s, s < 64 → F s = zI (v s)) (h : RM cash esc pd pt ow res wt T n se cl d) : RM cash esc pd pt ow res (updw wt k v) T n se cl (am_sg d 45 (64 * k) 64 F) := by
  obtain ⟨g1, g2, g3, g4, g5, g6, g7, g8, g9, g10⟩ := h
  refine ⟨?_, ?_, ?_, ?_, ?_, ?_, fun b hb => ?_, ⟨?_, g8.2.1, ?_⟩, ?_, ?_⟩
  · rw [am_sg_ne (by decide)]; exact g1
  · rw [am_sg_ne (by decide)]; exact g2
  · rw [am_sg_ne (by decide)]; exact g3
  · rw [am_sg_ne (by decide)]; exact g4
  · rw [am_sg_ne (by decide)]; exact g5
  · rw [am_sg_ne (by decide)]; exact g6
  · unfold updw
    by_cases z : b = k
    · subst z
      rw [if_pos rfl]
      exact ⟨hv, fun s hs => (am_sg_in hs).trans (hF s hs)⟩
    · rw [if_neg z]
      exact ⟨(g7 b hb).1, fun s hs => by rw [am_sg_out (by omega)]; exact (g7 b hb).2 s hs⟩
  · rw [am_sg_ne (by decide)]; exact g8.1
  · rw [am_sg_ne (by decide)]; exact g8.2.2
  · rw [am_sg_ne (by decide)]; exact g9
  · rw [am_sg_ne (by decide)]; exact g10
theorem RM.off {cash esc pd pt ow : Nat → Int32} {res : Nat → Int} {wt : Nat → Nat → Int} {T : Nat → Nat} {n : Nat} {se : Int32} {cl : Bool} {d d' : am_D} (h : RM cash esc pd pt ow res wt T n se cl d) (h0 : ∀ j, j = 0 ∨ j = 3 ∨ j = 5 → d' 40 j = d 40 j) (h1 : ∀ a, a = 41 ∨ a = 42 ∨ a = 43 ∨ a = 44 ∨ a = 45 ∨ a = 46 ∨ a = 51 ∨ a = 52 → d' a = d a) : RM cash esc pd pt ow res wt T n se cl d' := by
  obtain ⟨g1, g2, g3, g4, g5, g6, g7, g8, g9, g10⟩ := h
  refine ⟨?_, ?_, ?_, ?_, ?_, ?_, fun b hb => ⟨(g7 b hb).1, fun s hs => ?_⟩, ⟨?_, g8.2.1, ?_⟩, ?_, ?_⟩
  · rw [h1 41 (by decide)]; exact g1
  · rw [h1 42 (by decide)]; exact g2
  · rw [h1 52 (by decide)]; exact g3
  · rw [h1 46 (by decide)]; exact g4
  · rw [h1 51 (by decide)]; exact g5
  · rw [h1 43 (by decide)]; exact g6
  · rw [h1 45 (by decide)]; exact (g7 b hb).2 s hs
  · rw [h0 5 (by decide)]; exact g8.1
  · rw [h1 44 (by decide)]; exact g8.2.2
  · rw [h0 3 (by decide)]; exact g9
  · rw [h0 0 (by decide)]; exact g10
theorem RM.n0 {cash esc pd pt ow : Nat → Int32} {res : Nat → Int} {wt : Nat → Nat → Int} {T : Nat → Nat} {n : Nat} {se : Int32} {cl : Bool} {d : am_D} (h : RM cash esc pd pt ow res wt T n se cl d) : RM cash esc pd pt ow res wt T 0 se cl (am_u d 40 5 0) := by
  obtain ⟨g1, g2, g3, g4, g5, g6, g7, g8, g9, g10⟩ := h
  exact ⟨fun b hb => by rw [am_u_ne 41 (by decide)]; exact g1 b hb, fun b hb => by rw [am_u_ne 42 (by decide)]; exact g2 b hb, fun b hb => by rw [am_u_ne 52 (by decide)]; exact g3 b hb, fun b hb => by rw [am_u_ne 46 (by decide)]; exact g4 b hb, fun b hb => by rw [am_u_ne 51 (by decide)]; exact g5 b hb, fun b hb => by rw [am_u_ne 43 (by decide)]; exact g6 b hb, fun b hb => ⟨(g7 b hb).1, fun s hs => by rw [am_u_ne 45 (by decide)]; exact (g7 b hb).2 s hs⟩, ⟨am_u_i, by decide, fun j hj => by omega⟩, (am_u_o (by decide)).trans g9, (am_u_o (by decide)).trans g10⟩
theorem RM.n1 {cash esc pd pt ow : Nat → Int32} {res : Nat → Int} {wt : Nat → Nat → Int} {T : Nat → Nat} {n : Nat} {se : Int32} {cl : Bool} {d : am_D} {c : Nat} (hn : n < 40) (hc : c < 128) (h : RM cash esc pd pt ow res wt T n se cl d) : RM cash esc pd pt ow res wt (fun j => if j = n then c else T j) (n + 1) se cl (am_u (am_u d 44 n (nI c)) 40 5 (nI (n + 1))) := by
  obtain ⟨g1, g2, g3, g4, g5, g6, g7, g8, g9, g10⟩ := h
  refine ⟨fun b hb => by rw [am_u_ne 41 (by decide), am_u_ne 41 (by decide)]; exact g1 b hb, fun b hb => by rw [am_u_ne 42 (by decide), am_u_ne 42 (by decide)]; exact g2 b hb, fun b hb => by rw [am_u_ne 52 (by decide), am_u_ne 52 (by decide)]; exact g3 b hb, fun b hb => by rw [am_u_ne 46 (by decide), am_u_ne 46 (by decide)]; exact g4 b hb, fun b hb => by rw [am_u_ne 51 (by decide), am_u_ne 51 (by decide)]; exact g5 b hb, fun b hb => by rw [am_u_ne 43 (by decide), am_u_ne 43 (by decide)]; exact g6 b hb, fun b hb => ⟨(g7 b hb).1, fun s hs => by rw [am_u_ne 45 (by decide), am_u_ne 45 (by decide)]; exact (g7 b hb).2 s hs⟩, ⟨am_u_i, by omega, fun j hj => ?_⟩, by rw [am_u_o (by decide), am_u_ne 40 (by decide)]; exact g9, by rw [am_u_o (by decide), am_u_ne 40 (by decide)]; exact g10⟩
  rw [am_u_ne 44 (by decide)]
  dsimp only
  by_cases z : j = n
  · subst z; rw [am_u_i, if_pos rfl]; exact ⟨rfl, hc⟩
  · rw [am_u_o (fun q => z q.2), if_neg z]; exact g8.2.2 j (by omega)
theorem c_M_bidder0 {l : Launch} {x : am_X} {dep : Nat} {S : am_S} {nn : Nat} {d : am_D} (v : Int32) : am_Met l K0 x dep 0 0 m_M_bidder [.int v] S nn d (am_Ret (some (.int (if 0 ≤ v ∧ v ≤ 4 then 1 else 0))) S nn d) := by
  refine am_enter (by decide) (by simp [Value.category]) (Nat.le_of_ble_eq_true rfl) ?_
  refine am_go cd_M_bidder hc_M_bidder 0 1 (pc' := 1) (L' := [some (.int v)]) (st' := [.int v]) rfl ?_
  refine am_if_lt 13 (am_at hc_M_bidder 1 rfl) (by decide) (fun h1 => ?_) (fun h1 => ?_)
  · rw [if_neg (fun z => Int32.not_lt.mpr z.1 h1)]
    refine am_go cd_M_bidder hc_M_bidder 7 1 (pc' := 14) (L' := [some (.int v)]) (st' := [.int 0]) rfl ?_
    exact am_iret (am_at hc_M_bidder 8 rfl) rfl rfl ⟨rfl, rfl, rfl, rfl⟩
  · skip
    refine am_go cd_M_bidder hc_M_bidder 2 2 (pc' := 6) (L' := [some (.int v)]) (st' := [.int 4, .int v]) rfl ?_
    refine am_icmp_gt 13 (am_at hc_M_bidder 4 rfl) (by decide) (fun h2 => ?_) (fun h2 => ?_)
    · rw [if_neg (fun z => Int32.not_lt.mpr z.2 h2)]
      refine am_go cd_M_bidder hc_M_bidder 7 1 (pc' := 14) (L' := [some (.int v)]) (st' := [.int 0]) rfl ?_
      exact am_iret (am_at hc_M_bidder 8 rfl) rfl rfl ⟨rfl, rfl, rfl, rfl⟩
    · rw [if_pos ⟨Int32.not_lt.mp h1, Int32.not_lt.mp h2⟩]
      refine am_go cd_M_bidder hc_M_bidder 5 2 (pc' := 14) (L' := [some (.int v)]) (st' := [.int 1]) rfl ?_
      exact am_iret (am_at hc_M_bidder 8 rfl) rfl rfl ⟨rfl, rfl, rfl, rfl⟩
theorem le4_lt5 (v : Int32) : v ≤ 4 ↔ v < 5 := by
  rw [Int32.le_iff_toInt_le, Int32.lt_iff_toInt_lt]
  have e1 : (4 : Int32).toInt = 4 := rfl
  have e2 : (5 : Int32).toInt = 5 := rfl
  omega
theorem le5_lt6 (v : Int32) : v ≤ 5 ↔ v < 6 := by
  rw [Int32.le_iff_toInt_le, Int32.lt_iff_toInt_lt]
  have e1 : (5 : Int32).toInt = 5 := rfl
  have e2 : (6 : Int32).toInt = 6 := rfl
  omega
theorem le63_lt64 (v : Int32) : v ≤ 63 ↔ v < 64 := by
  rw [Int32.le_iff_toInt_le, Int32.lt_iff_toInt_lt]
  have e1 : (63 : Int32).toInt = 63 := rfl
  have e2 : (64 : Int32).toInt = 64 := rfl
  omega
theorem c_mB {l : Launch} {x : am_X} {e L : Nat} {d : am_D} (v : Int32) : cM l x e L m_M_bidder [.int v] d (cR (some (.int (if isB v then 1 else 0))) d) := by
  refine am_Met.mono (c_M_bidder0 v) ?_
  rintro r S' n' d' ⟨rfl, rfl, rfl, rfl⟩
  refine ⟨rfl, rfl, ?_, rfl⟩
  simp only [le4_lt5]
set_option maxHeartbeats 4000000 in
theorem c_M_fund {l : Launch} {x : am_X} {e L : Nat} {d : am_D} {cash esc pd pt ow : Nat → Int32} {res : Nat → Int} {wt : Nat → Nat → Int} {T : Nat → Nat} {n : Nat} {se : Int32} {cl : Bool} (h : RM cash esc pd pt ow res wt T n se cl d) (v m : Int32) : cM l x (e + 1) L m_M_fund [.ref 40, .int v, .int m] d (fun r d' => r = some (.int (if fundOk cash esc v m then 1 else 0)) ∧ RM (if fundOk cash esc v m then upd cash (cN v) (cash (cN v) + m) else cash) esc pd pt ow res wt T n se cl d' ∧ fM d d') := by
  obtain ⟨h1, h2, h3, h4, h5, h6, h7, h8, h9, h10⟩ := id h
  refine cM.go (by decide) (by simp [Value.category]) (Nat.le_of_ble_eq_true rfl) ?_
  refine am_go cd_M_fund hc_M_fund 0 1 (pc' := 1) (L' := [some (.ref 40), some (.int v), some (.int m)]) (st' := [.int v]) rfl ?_
  refine cW.callS1 4 [.int (if isB v then 1 else 0)] (st := []) [.int v] (am_at hc_M_fund 1 rfl) g_M_bidder (Or.inl (tw 368 rfl rfl)) (tw 369 rfl rfl) rfl rfl (Nat.le_of_ble_eq_true rfl) (c_mB v) rfl rfl ?_
  by_cases hb : isB v
  · simp only [if_pos hb]
    refine am_if_eq 38 (am_at hc_M_fund 2 rfl) (by decide) (fun q1 => absurd q1 (by decide)) (fun q1 => ?_)
    refine am_go cd_M_fund hc_M_fund 3 2 (pc' := 9) (L' := [some (.ref 40), some (.int v), some (.int m)]) (st' := [.int 1, .int m]) rfl ?_
    refine am_icmp_lt 38 (am_at hc_M_fund 5 rfl) (by decide) (fun q2 => ?_) (fun q2 => ?_)
    · skip
      have hno : ¬ fundOk cash esc v m := fun z => Int32.not_lt.mpr z.2.1 q2
      simp only [if_neg hno]
      refine am_go cd_M_fund hc_M_fund 22 1 (pc' := 39) (L' := [some (.ref 40), some (.int v), some (.int m)]) (st' := [.int 0]) rfl ?_
      exact am_iret (am_at hc_M_fund 23 rfl) rfl rfl ⟨rfl, rfl, rfl, h, fM.rf⟩
    · skip
      refine am_go cd_M_fund hc_M_fund 6 1 (pc' := 13) (L' := [some (.ref 40), some (.int v), some (.int m)]) (st' := [.int m]) rfl ?_
      refine am_ldc 100000 (am_at hc_M_fund 7 rfl) (tw 371 rfl rfl) ?_
      refine am_icmp_gt 38 (am_at hc_M_fund 8 rfl) (by decide) (fun q3 => ?_) (fun q3 => ?_)
      · skip
        have hno : ¬ fundOk cash esc v m := fun z => Int32.not_lt.mpr z.2.2.1 q3
        simp only [if_neg hno]
        refine am_go cd_M_fund hc_M_fund 22 1 (pc' := 39) (L' := [some (.ref 40), some (.int v), some (.int m)]) (st' := [.int 0]) rfl ?_
        exact am_iret (am_at hc_M_fund 23 rfl) rfl rfl ⟨rfl, rfl, rfl, h, fM.rf⟩
      · skip
        obtain ⟨b, hb5, rfl⟩ := isB_of hb
        refine am_go cd_M_fund hc_M_fund 9 1 (pc' := 19) (L' := [some (.ref 40), some (.int (nI b)), some (.int m)]) (st' := [.ref 40]) rfl ?_
        refine am_getf 3 1 k_r3 (am_at hc_M_fund 10 rfl) rfl (by decide) rfl (by decide) k_ok3 (Or.inl (tw 307 rfl rfl)) rfl ?_
        refine am_go cd_M_fund hc_M_fund 11 1 (pc' := 23) (L' := [some (.ref 40), some (.int (nI b)), some (.int m)]) (st' := [.int (nI b), .ref 41]) rfl ?_
        refine am_iaload (b) (am_at hc_M_fund 12 rfl) rfl (Or.inl (by decide)) rfl (by show b < 5; omega) (Nat.le_of_ble_eq_true rfl) ?_
        rw [show d 41 b = cash b from h1 b hb5]
        refine am_go cd_M_fund hc_M_fund 13 1 (pc' := 25) (L' := [some (.ref 40), some (.int (nI b)), some (.int m)]) (st' := [.ref 40, .int (cash b)]) rfl ?_
        refine am_getf 3 2 k_r3 (am_at hc_M_fund 14 rfl) rfl (by decide) rfl (by decide) k_ok3 (Or.inl (tw 308 rfl rfl)) rfl ?_
        refine am_go cd_M_fund hc_M_fund 15 1 (pc' := 29) (L' := [some (.ref 40), some (.int (nI b)), some (.int m)]) (st' := [.int (nI b), .ref 42, .int (cash b)]) rfl ?_
        refine am_iaload (b) (am_at hc_M_fund 16 rfl) rfl (Or.inl (by decide)) rfl (by show b < 5; omega) (Nat.le_of_ble_eq_true rfl) ?_
        rw [show d 42 b = esc b from h2 b hb5]
        refine am_go cd_M_fund hc_M_fund 17 3 (pc' := 33) (L' := [some (.ref 40), some (.int (nI b)), some (.int m)]) (st' := [.int ((cash b + esc b) + m)]) rfl ?_
        refine am_ldc 1000000 (am_at hc_M_fund 20 rfl) (tw 372 rfl rfl) ?_
        refine am_icmp_le 40 (am_at hc_M_fund 21 rfl) (by decide) (fun q4 => ?_) (fun q4 => ?_)
        · have hok : fundOk cash esc (nI b) m := ⟨hb, Int32.not_lt.mp q2, Int32.not_lt.mp q3, by rw [nI_cl (by omega)]; exact q4⟩
          simp only [if_pos hok, nI_cl (show b < 1000000 by omega)]
          refine am_go cd_M_fund hc_M_fund 24 1 (pc' := 41) (L' := [some (.ref 40), some (.int (nI b)), some (.int m)]) (st' := [.ref 40]) rfl ?_
          refine am_getf 3 1 k_r3 (am_at hc_M_fund 25 rfl) rfl (by decide) rfl (by decide) k_ok3 (Or.inl (tw 307 rfl rfl)) rfl ?_
          refine am_go cd_M_fund hc_M_fund 26 2 (pc' := 46) (L' := [some (.ref 40), some (.int (nI b)), some (.int m)]) (st' := [.int (nI b), .ref 41, .int (nI b), .ref 41]) rfl ?_
          refine am_iaload (b) (am_at hc_M_fund 28 rfl) rfl (Or.inl (by decide)) rfl (by show b < 5; omega) (Nat.le_of_ble_eq_true rfl) ?_
          rw [show d 41 b = cash b from h1 b hb5]
          refine am_go cd_M_fund hc_M_fund 29 2 (pc' := 49) (L' := [some (.ref 40), some (.int (nI b)), some (.int m)]) (st' := [.int (cash b + m), .int (nI b), .ref 41]) rfl ?_
          refine am_iastore (b) (am_at hc_M_fund 31 rfl) rfl (by decide) rfl (by show b < 5; omega) (Nat.le_of_ble_eq_true rfl) ?_
          refine am_go cd_M_fund hc_M_fund 32 1 (pc' := 51) (L' := [some (.ref 40), some (.int (nI b)), some (.int m)]) (st' := [.int 1]) rfl ?_
          exact am_iret (am_at hc_M_fund 33 rfl) rfl rfl ⟨rfl, rfl, rfl, h.cash, fM.u (by decide)⟩
        · skip
          have hno : ¬ fundOk cash esc (nI b) m := fun z => q4 (by have := z.2.2.2; rw [nI_cl (by omega)] at this; exact this)
          simp only [if_neg hno]
          refine am_go cd_M_fund hc_M_fund 22 1 (pc' := 39) (L' := [some (.ref 40), some (.int (nI b)), some (.int m)]) (st' := [.int 0]) rfl ?_
          exact am_iret (am_at hc_M_fund 23 rfl) rfl rfl ⟨rfl, rfl, rfl, h, fM.rf⟩
  · simp only [if_neg hb]
    refine am_if_eq 38 (am_at hc_M_fund 2 rfl) (by decide) (fun q1 => ?_) (fun q1 => absurd rfl q1)
    have hno : ¬ fundOk cash esc v m := fun z => hb z.1
    simp only [if_neg hno]
    refine am_go cd_M_fund hc_M_fund 22 1 (pc' := 39) (L' := [some (.ref 40), some (.int v), some (.int m)]) (st' := [.int 0]) rfl ?_
    exact am_iret (am_at hc_M_fund 23 rfl) rfl rfl ⟨rfl, rfl, rfl, h, fM.rf⟩
set_option maxHeartbeats 4000000 in
theorem c_M_deposit {l : Launch} {x : am_X} {e L : Nat} {d : am_D} {cash esc pd pt ow : Nat → Int32} {res : Nat → Int} {wt : Nat → Nat → Int} {T : Nat → Nat} {n : Nat} {se : Int32} {cl : Bool} (h : RM cash esc pd pt ow res wt T n se cl d) (v m : Int32) : cM l x (e + 1) L m_M_deposit [.ref 40, .int v, .int m] d (fun r d' => r = some (.int (if depOk cash cl v m then 1 else 0)) ∧ RM (if depOk cash cl v m then upd cash (cN v) (cash (cN v) - m) else cash) (if depOk cash cl v m then upd esc (cN v) (esc (cN v) + m) else esc) pd pt ow res wt T n se cl d' ∧ fM d d') := by
  obtain ⟨h1, h2, h3, h4, h5, h6, h7, h8, h9, h10⟩ := id h
  refine cM.go (by decide) (by simp [Value.category]) (Nat.le_of_ble_eq_true rfl) ?_
  refine am_go cd_M_deposit hc_M_deposit 0 1 (pc' := 1) (L' := [some (.ref 40), some (.int v), some (.int m)]) (st' := [.ref 40]) rfl ?_
  refine am_getf 3 0 k_r3 (am_at hc_M_deposit 1 rfl) rfl (by decide) rfl (by decide) k_ok3 (Or.inl (tw 306 rfl rfl)) (congrArg Value.int h10) ?_
  cases cl with
  | true =>
    simp only [bI_t]
    refine am_if_ne 29 (am_at hc_M_deposit 2 rfl) (by decide) (fun q0 => ?_) (fun q0 => absurd q0 (by decide))
    have hno : ¬ depOk cash true v m := fun z => by cases z.1
    simp only [if_neg hno]
    refine am_go cd_M_deposit hc_M_deposit 15 1 (pc' := 30) (L' := [some (.ref 40), some (.int v), some (.int m)]) (st' := [.int 0]) rfl ?_
    exact am_iret (am_at hc_M_deposit 16 rfl) rfl rfl ⟨rfl, rfl, rfl, h, fM.rf⟩
  | false =>
    simp only [bI_f]
    refine am_if_ne 29 (am_at hc_M_deposit 2 rfl) (by decide) (fun q0 => absurd rfl q0) (fun q0 => ?_)
    refine am_go cd_M_deposit hc_M_deposit 3 1 (pc' := 8) (L' := [some (.ref 40), some (.int v), some (.int m)]) (st' := [.int v]) rfl ?_
    refine cW.callS1 11 [.int (if isB v then 1 else 0)] (st := []) [.int v] (am_at hc_M_deposit 4 rfl) g_M_bidder (Or.inl (tw 368 rfl rfl)) (tw 369 rfl rfl) rfl rfl (Nat.le_of_ble_eq_true rfl) (c_mB v) rfl rfl ?_
    by_cases hb : isB v
    · simp only [if_pos hb]
      refine am_if_eq 29 (am_at hc_M_deposit 5 rfl) (by decide) (fun q1 => absurd q1 (by decide)) (fun q1 => ?_)
      refine am_go cd_M_deposit hc_M_deposit 6 2 (pc' := 16) (L' := [some (.ref 40), some (.int v), some (.int m)]) (st' := [.int 1, .int m]) rfl ?_
      refine am_icmp_lt 29 (am_at hc_M_deposit 8 rfl) (by decide) (fun q2 => ?_) (fun q2 => ?_)
      · skip
        have hno : ¬ depOk cash false v m := fun z => Int32.not_lt.mpr z.2.2.1 q2
        simp only [if_neg hno]
        refine am_go cd_M_deposit hc_M_deposit 15 1 (pc' := 30) (L' := [some (.ref 40), some (.int v), some (.int m)]) (st' := [.int 0]) rfl ?_
        exact am_iret (am_at hc_M_deposit 16 rfl) rfl rfl ⟨rfl, rfl, rfl, h, fM.rf⟩
      · skip
        obtain ⟨b, hb5, rfl⟩ := isB_of hb
        refine am_go cd_M_deposit hc_M_deposit 9 1 (pc' := 20) (L' := [some (.ref 40), some (.int (nI b)), some (.int m)]) (st' := [.ref 40]) rfl ?_
        refine am_getf 3 1 k_r3 (am_at hc_M_deposit 10 rfl) rfl (by decide) rfl (by decide) k_ok3 (Or.inl (tw 307 rfl rfl)) rfl ?_
        refine am_go cd_M_deposit hc_M_deposit 11 1 (pc' := 24) (L' := [some (.ref 40), some (.int (nI b)), some (.int m)]) (st' := [.int (nI b), .ref 41]) rfl ?_
        refine am_iaload (b) (am_at hc_M_deposit 12 rfl) rfl (Or.inl (by decide)) rfl (by show b < 5; omega) (Nat.le_of_ble_eq_true rfl) ?_
        rw [show d 41 b = cash b from h1 b hb5]
        refine am_go cd_M_deposit hc_M_deposit 13 1 (pc' := 26) (L' := [some (.ref 40), some (.int (nI b)), some (.int m)]) (st' := [.int m, .int (cash b)]) rfl ?_
        refine am_icmp_ge 31 (am_at hc_M_deposit 14 rfl) (by decide) (fun q4 => ?_) (fun q4 => ?_)
        · have hok : depOk cash false (nI b) m := ⟨rfl, hb, Int32.not_lt.mp q2, by rw [nI_cl (by omega)]; exact q4⟩
          simp only [if_pos hok, nI_cl (show b < 1000000 by omega)]
          refine am_go cd_M_deposit hc_M_deposit 17 1 (pc' := 32) (L' := [some (.ref 40), some (.int (nI b)), some (.int m)]) (st' := [.ref 40]) rfl ?_
          refine am_getf 3 1 k_r3 (am_at hc_M_deposit 18 rfl) rfl (by decide) rfl (by decide) k_ok3 (Or.inl (tw 307 rfl rfl)) rfl ?_
          refine am_go cd_M_deposit hc_M_deposit 19 2 (pc' := 37) (L' := [some (.ref 40), some (.int (nI b)), some (.int m)]) (st' := [.int (nI b), .ref 41, .int (nI b), .ref 41]) rfl ?_
          refine am_iaload (b) (am_at hc_M_deposit 21 rfl) rfl (Or.inl (by decide)) rfl (by show b < 5; omega) (Nat.le_of_ble_eq_true rfl) ?_
          rw [show d 41 b = cash b from h1 b hb5]
          refine am_go cd_M_deposit hc_M_deposit 22 2 (pc' := 40) (L' := [some (.ref 40), some (.int (nI b)), some (.int m)]) (st' := [.int (cash b - m), .int (nI b), .ref 41]) rfl ?_
          refine am_iastore (b) (am_at hc_M_deposit 24 rfl) rfl (by decide) rfl (by show b < 5; omega) (Nat.le_of_ble_eq_true rfl) ?_
          refine am_go cd_M_deposit hc_M_deposit 25 1 (pc' := 42) (L' := [some (.ref 40), some (.int (nI b)), some (.int m)]) (st' := [.ref 40]) rfl ?_
          refine am_getf 3 2 k_r3 (am_at hc_M_deposit 26 rfl) rfl (by decide) rfl (by decide) k_ok3 (Or.inl (tw 308 rfl rfl)) rfl ?_
          refine am_go cd_M_deposit hc_M_deposit 27 2 (pc' := 47) (L' := [some (.ref 40), some (.int (nI b)), some (.int m)]) (st' := [.int (nI b), .ref 42, .int (nI b), .ref 42]) rfl ?_
          refine am_iaload (b) (am_at hc_M_deposit 29 rfl) rfl (Or.inl (by decide)) rfl (by show b < 5; omega) (Nat.le_of_ble_eq_true rfl) ?_
          rw [show am_u d 41 b (cash b - m) 42 b = esc b from (congrFun (am_u_ne 42 (by decide)) b).trans (h2 b hb5)]
          refine am_go cd_M_deposit hc_M_deposit 30 2 (pc' := 50) (L' := [some (.ref 40), some (.int (nI b)), some (.int m)]) (st' := [.int (esc b + m), .int (nI b), .ref 42]) rfl ?_
          refine am_iastore (b) (am_at hc_M_deposit 32 rfl) rfl (by decide) rfl (by show b < 5; omega) (Nat.le_of_ble_eq_true rfl) ?_
          refine am_go cd_M_deposit hc_M_deposit 33 1 (pc' := 52) (L' := [some (.ref 40), some (.int (nI b)), some (.int m)]) (st' := [.int 1]) rfl ?_
          exact am_iret (am_at hc_M_deposit 34 rfl) rfl rfl ⟨rfl, rfl, rfl, h.cash.esc, (fM.u (by decide)).tr (fM.u (by decide))⟩
        · skip
          have hno : ¬ depOk cash false (nI b) m := fun z => q4 (by have := z.2.2.2; rw [nI_cl (by omega)] at this; exact this)
          simp only [if_neg hno]
          refine am_go cd_M_deposit hc_M_deposit 15 1 (pc' := 30) (L' := [some (.ref 40), some (.int (nI b)), some (.int m)]) (st' := [.int 0]) rfl ?_
          exact am_iret (am_at hc_M_deposit 16 rfl) rfl rfl ⟨rfl, rfl, rfl, h, fM.rf⟩
    · simp only [if_neg hb]
      refine am_if_eq 29 (am_at hc_M_deposit 5 rfl) (by decide) (fun q1 => ?_) (fun q1 => absurd rfl q1)
      have hno : ¬ depOk cash false v m := fun z => hb z.2.1
      simp only [if_neg hno]
      refine am_go cd_M_deposit hc_M_deposit 15 1 (pc' := 30) (L' := [some (.ref 40), some (.int v), some (.int m)]) (st' := [.int 0]) rfl ?_
      exact am_iret (am_at hc_M_deposit 16 rfl) rfl rfl ⟨rfl, rfl, rfl, h, fM.rf⟩
set_option maxHeartbeats 4000000 in
theorem c_M_reserve {l : Launch} {x : am_X} {e L : Nat} {d : am_D} {cash esc pd pt ow : Nat → Int32} {res : Nat → Int} {wt : Nat → Nat → Int} {T : Nat → Nat} {n : Nat} {se : Int32} {cl : Bool} (h : RM cash esc pd pt ow res wt T n se cl d) (v m : Int32) : cM l x e L m_M_reserve [.ref 40, .int v, .int m] d (fun r d' => r = some (.int (if resOk cl v m then 1 else 0)) ∧ RM cash esc pd pt ow (if resOk cl v m then (fun j => if j = cN v then m.toInt else res j) else res) wt T n se cl d' ∧ fM d d') := by
  obtain ⟨h1, h2, h3, h4, h5, h6, h7, h8, h9, h10⟩ := id h
  refine cM.go (by decide) (by simp [Value.category]) (Nat.le_of_ble_eq_true rfl) ?_
  refine am_go cd_M_reserve hc_M_reserve 0 1 (pc' := 1) (L' := [some (.ref 40), some (.int v), some (.int m)]) (st' := [.ref 40]) rfl ?_
  refine am_getf 3 0 k_r3 (am_at hc_M_reserve 1 rfl) rfl (by decide) rfl (by decide) k_ok3 (Or.inl (tw 306 rfl rfl)) (congrArg Value.int h10) ?_
  cases cl with
  | true =>
    simp only [bI_t]
    refine am_if_ne 27 (am_at hc_M_reserve 2 rfl) (by decide) (fun q0 => ?_) (fun q0 => absurd q0 (by decide))
    have hno : ¬ resOk true v m := fun z => by cases z.1
    simp only [if_neg hno]
    refine am_go cd_M_reserve hc_M_reserve 13 1 (pc' := 28) (L' := [some (.ref 40), some (.int v), some (.int m)]) (st' := [.int 0]) rfl ?_
    exact am_iret (am_at hc_M_reserve 14 rfl) rfl rfl ⟨rfl, rfl, rfl, h, fM.rf⟩
  | false =>
    simp only [bI_f]
    refine am_if_ne 27 (am_at hc_M_reserve 2 rfl) (by decide) (fun q0 => absurd rfl q0) (fun q0 => ?_)
    refine am_go cd_M_reserve hc_M_reserve 3 1 (pc' := 8) (L' := [some (.ref 40), some (.int v), some (.int m)]) (st' := [.int v]) rfl ?_
    refine am_if_lt 27 (am_at hc_M_reserve 4 rfl) (by decide) (fun qa => ?_) (fun qa => ?_)
    · skip
      have hno : ¬ resOk false v m := fun z => Int32.not_lt.mpr z.2.1.1 qa
      simp only [if_neg hno]
      refine am_go cd_M_reserve hc_M_reserve 13 1 (pc' := 28) (L' := [some (.ref 40), some (.int v), some (.int m)]) (st' := [.int 0]) rfl ?_
      exact am_iret (am_at hc_M_reserve 14 rfl) rfl rfl ⟨rfl, rfl, rfl, h, fM.rf⟩
    · skip
      refine am_go cd_M_reserve hc_M_reserve 5 2 (pc' := 13) (L' := [some (.ref 40), some (.int v), some (.int m)]) (st' := [.int 5, .int v]) rfl ?_
      refine am_icmp_gt 27 (am_at hc_M_reserve 7 rfl) (by decide) (fun qb => ?_) (fun qb => ?_)
      · skip
        have hno : ¬ resOk false v m := fun z => Int32.not_lt.mpr ((le5_lt6 v).mpr z.2.1.2) qb
        simp only [if_neg hno]
        refine am_go cd_M_reserve hc_M_reserve 13 1 (pc' := 28) (L' := [some (.ref 40), some (.int v), some (.int m)]) (st' := [.int 0]) rfl ?_
        exact am_iret (am_at hc_M_reserve 14 rfl) rfl rfl ⟨rfl, rfl, rfl, h, fM.rf⟩
      · have hb : isI v := ⟨Int32.not_lt.mp qa, (le5_lt6 v).mp (Int32.not_lt.mp qb)⟩
        refine am_go cd_M_reserve hc_M_reserve 8 1 (pc' := 17) (L' := [some (.ref 40), some (.int v), some (.int m)]) (st' := [.int m]) rfl ?_
        refine am_if_lt 27 (am_at hc_M_reserve 9 rfl) (by decide) (fun q2 => ?_) (fun q2 => ?_)
        · skip
          have hno : ¬ resOk false v m := fun z => Int32.not_lt.mpr z.2.2.1 q2
          simp only [if_neg hno]
          refine am_go cd_M_reserve hc_M_reserve 13 1 (pc' := 28) (L' := [some (.ref 40), some (.int v), some (.int m)]) (st' := [.int 0]) rfl ?_
          exact am_iret (am_at hc_M_reserve 14 rfl) rfl rfl ⟨rfl, rfl, rfl, h, fM.rf⟩
        · skip
          refine am_go cd_M_reserve hc_M_reserve 10 2 (pc' := 24) (L' := [some (.ref 40), some (.int v), some (.int m)]) (st' := [.int 999, .int m]) rfl ?_
          refine am_icmp_le 29 (am_at hc_M_reserve 12 rfl) (by decide) (fun q4 => ?_) (fun q4 => ?_)
          · have hok : resOk false v m := ⟨rfl, hb, Int32.not_lt.mp q2, q4⟩
            simp only [if_pos hok]
            obtain ⟨b, hb5, rfl⟩ := isI_of hb
            simp only [nI_cl (show b < 1000000 by omega)]
            have hm : m = zI m.toInt := zI_of m
            have hm0 : 0 ≤ m.toInt := by have := Int32.le_iff_toInt_le.mp hok.2.2.1; simpa using this
            have hm9 : m.toInt ≤ 999 := by have := Int32.le_iff_toInt_le.mp hok.2.2.2; exact this
            refine am_go cd_M_reserve hc_M_reserve 15 1 (pc' := 30) (L' := [some (.ref 40), some (.int (nI b)), some (.int m)]) (st' := [.ref 40]) rfl ?_
            refine am_getf 3 4 k_r3 (am_at hc_M_reserve 16 rfl) rfl (by decide) rfl (by decide) k_ok3 (Or.inl (tw 310 rfl rfl)) rfl ?_
            refine am_go cd_M_reserve hc_M_reserve 17 2 (pc' := 35) (L' := [some (.ref 40), some (.int (nI b)), some (.int m)]) (st' := [.int m, .int (nI b), .ref 43]) rfl ?_
            refine am_iastore (b) (am_at hc_M_reserve 19 rfl) rfl (by decide) rfl (by show b < 6; omega) (Nat.le_of_ble_eq_true rfl) ?_
            refine am_go cd_M_reserve hc_M_reserve 20 1 (pc' := 37) (L' := [some (.ref 40), some (.int (nI b)), some (.int m)]) (st' := [.int 1]) rfl ?_
            refine am_iret (am_at hc_M_reserve 21 rfl) rfl rfl ⟨rfl, rfl, rfl, ?_, fM.u (by decide)⟩
            have hh := h.res (k := b) (v := m.toInt) ⟨hm0, hm9⟩
            rw [← hm] at hh
            exact hh
          · skip
            have hno : ¬ resOk false v m := fun z => q4 z.2.2.2
            simp only [if_neg hno]
            refine am_go cd_M_reserve hc_M_reserve 13 1 (pc' := 28) (L' := [some (.ref 40), some (.int v), some (.int m)]) (st' := [.int 0]) rfl ?_
            exact am_iret (am_at hc_M_reserve 14 rfl) rfl rfl ⟨rfl, rfl, rfl, h, fM.rf⟩
set_option maxHeartbeats 4000000 in
theorem c_M_drop {l : Launch} {x : am_X} {e L : Nat} {d : am_D} {cash esc pd pt ow : Nat → Int32} {res : Nat → Int} {wt : Nat → Nat → Int} {T : Nat → Nat} {n : Nat} {se : Int32} {cl : Bool} (h : RM cash esc pd pt ow res wt T n se cl d) {b : Nat} (hb5 : b < 5) : cM l x e L m_M_drop [.ref 40, .int (nI b)] d (fun r d' => r = none ∧ RM cash esc pd (upd pt b 0) ow res (updw wt b (fun _ => 0)) T n se cl d' ∧ fM d d') := by
  obtain ⟨h1, h2, h3, h4, h5, h6, h7, h8, h9, h10⟩ := id h
  refine cM.go (by decide) (by simp [Value.category]) (Nat.le_of_ble_eq_true rfl) ?_
  refine am_go cd_M_drop hc_M_drop 0 1 (pc' := 1) (L' := [some (.ref 40), some (.int (nI b)), none]) (st' := [.ref 40]) rfl ?_
  refine am_getf 3 8 k_r3 (am_at hc_M_drop 1 rfl) rfl (by decide) rfl (by decide) k_ok3 (Or.inl (tw 314 rfl rfl)) rfl ?_
  refine am_go cd_M_drop hc_M_drop 2 2 (pc' := 6) (L' := [some (.ref 40), some (.int (nI b)), none]) (st' := [.int 0, .int (nI b), .ref 46]) rfl ?_
  refine am_iastore (b) (am_at hc_M_drop 4 rfl) rfl (by decide) rfl (by show b < 5; omega) (Nat.le_of_ble_eq_true rfl) ?_
  refine am_go cd_M_drop hc_M_drop 5 2 (pc' := 9) (L' := [some (.ref 40), some (.int (nI b)), some (.int 0)]) (st' := []) rfl ?_
  have hpt := h.pt (k := b) (v := 0)
  generalize hD : am_u d 46 b 0 = D at hpt ⊢
  have hfD : fM d D := by rw [← hD]; exact fM.u (by decide)
  have loop : ∀ q j, j + q = 64 → cW l x e L m_M_drop 9 [some (.ref 40), some (.int (nI b)), some (.int (nI j))] [] (am_sg D 45 (64 * b) j (fun _ => zI 0)) (fun r d' => r = none ∧ RM cash esc pd (upd pt b 0) ow res (updw wt b (fun _ => 0)) T n se cl d' ∧ fM d d') := by
    intro q
    induction q with
    | zero =>
      intro j hj
      refine am_go cd_M_drop hc_M_drop 7 2 (pc' := 12) (L' := [some (.ref 40), some (.int (nI b)), some (.int (nI j))]) (st' := [.int 64, .int (nI j)]) rfl ?_
      refine am_icmp_ge 33 (am_at hc_M_drop 9 rfl) (by decide) (fun q1 => ?_) (fun q1 => absurd (nI_le (a := 64) (b := j) (by omega) (by omega)) q1)
      rw [show j = 64 by omega]
      exact am_vret (am_at hc_M_drop 21 rfl) rfl ⟨rfl, rfl, rfl, hpt.wt hb5 tb_0 (fun _ _ => rfl), hfD.tr (fM.s (by decide))⟩
    | succ q ih =>
      intro j hj
      refine am_go cd_M_drop hc_M_drop 7 2 (pc' := 12) (L' := [some (.ref 40), some (.int (nI b)), some (.int (nI j))]) (st' := [.int 64, .int (nI j)]) rfl ?_
      refine am_icmp_ge 33 (am_at hc_M_drop 9 rfl) (by decide) (fun q1 => absurd q1 (nI_ge (a := j) (b := 64) (by omega) (by omega))) (fun q1 => ?_)
      refine am_go cd_M_drop hc_M_drop 10 1 (pc' := 16) (L' := [some (.ref 40), some (.int (nI b)), some (.int (nI j))]) (st' := [.ref 40]) rfl ?_
      refine am_getf 3 7 k_r3 (am_at hc_M_drop 11 rfl) rfl (by decide) rfl (by decide) k_ok3 (Or.inl (tw 313 rfl rfl)) rfl ?_
      refine am_go cd_M_drop hc_M_drop 12 6 (pc' := 26) (L' := [some (.ref 40), some (.int (nI b)), some (.int (nI j))]) (st' := [.int 0, .int ((64 * nI b) + nI j), .ref 45]) rfl ?_
      refine am_iastore (64 * b + j) (am_at hc_M_drop 18 rfl) rfl (by decide) (by rw [← nI_add, ← pk_mul]; rfl) (by show 64 * b + j < 320; omega) (Nat.le_of_ble_eq_true rfl) ?_
      refine am_go cd_M_drop hc_M_drop 19 2 (pc' := 9) (L' := [some (.ref 40), some (.int (nI b)), some (.int (nI j + 1))]) (st' := []) rfl ?_
      have e1 := am_sg_s D 45 (64 * b) j (fun _ => zI 0)
      rw [nI_1]
      rw [show am_u (am_sg D 45 (64 * b) j (fun _ => zI 0)) 45 (64 * b + j) 0 = am_sg D 45 (64 * b) (j + 1) (fun _ => zI 0) from e1]
      exact ih (j + 1) (by omega)
  have h0 := loop 64 0 rfl
  rw [am_sg_0] at h0
  exact h0
set_option maxHeartbeats 4000000 in
theorem c_M_withdraw {l : Launch} {x : am_X} {e L : Nat} {d : am_D} {cash esc pd pt ow : Nat → Int32} {res : Nat → Int} {wt : Nat → Nat → Int} {T : Nat → Nat} {n : Nat} {se : Int32} {cl : Bool} (h : RM cash esc pd pt ow res wt T n se cl d) (v : Int32) : cM l x (e + 1) L m_M_withdraw [.ref 40, .int v] d (fun r d' => r = some (.int (if opB cl v then 1 else 0)) ∧ RM (if opB cl v then upd cash (cN v) (cash (cN v) + esc (cN v)) else cash) (if opB cl v then upd esc (cN v) 0 else esc) pd (if opB cl v then upd pt (cN v) 0 else pt) ow res (if opB cl v then updw wt (cN v) (fun _ => 0) else wt) T n se cl d' ∧ fM d d') := by
  obtain ⟨h1, h2, h3, h4, h5, h6, h7, h8, h9, h10⟩ := id h
  refine cM.go (by decide) (by simp [Value.category]) (Nat.le_of_ble_eq_true rfl) ?_
  refine am_go cd_M_withdraw hc_M_withdraw 0 1 (pc' := 1) (L' := [some (.ref 40), some (.int v)]) (st' := [.ref 40]) rfl ?_
  refine am_getf 3 0 k_r3 (am_at hc_M_withdraw 1 rfl) rfl (by decide) rfl (by decide) k_ok3 (Or.inl (tw 306 rfl rfl)) (congrArg Value.int h10) ?_
  cases cl with
  | true =>
    simp only [bI_t]
    refine am_if_ne 14 (am_at hc_M_withdraw 2 rfl) (by decide) (fun q0 => ?_) (fun q0 => absurd q0 (by decide))
    have hno : ¬ opB true v := fun z => by cases z.1
    simp only [if_neg hno]
    refine am_go cd_M_withdraw hc_M_withdraw 6 1 (pc' := 15) (L' := [some (.ref 40), some (.int v)]) (st' := [.int 0]) rfl ?_
    exact am_iret (am_at hc_M_withdraw 7 rfl) rfl rfl ⟨rfl, rfl, rfl, h, fM.rf⟩
  | false =>
    simp only [bI_f]
    refine am_if_ne 14 (am_at hc_M_withdraw 2 rfl) (by decide) (fun q0 => absurd rfl q0) (fun q0 => ?_)
    refine am_go cd_M_withdraw hc_M_withdraw 3 1 (pc' := 8) (L' := [some (.ref 40), some (.int v)]) (st' := [.int v]) rfl ?_
    refine cW.callS1 11 [.int (if isB v then 1 else 0)] (st := []) [.int v] (am_at hc_M_withdraw 4 rfl) g_M_bidder (Or.inl (tw 368 rfl rfl)) (tw 369 rfl rfl) rfl rfl (Nat.le_of_ble_eq_true rfl) (c_mB v) rfl rfl ?_
    by_cases hb : isB v
    · simp only [if_pos hb]
      refine am_if_ne 16 (am_at hc_M_withdraw 5 rfl) (by decide) (fun q1 => ?_) (fun q1 => absurd q1 (by decide))
      have hok : opB false v := ⟨rfl, hb⟩
      simp only [if_pos hok]
      obtain ⟨b, hb5, rfl⟩ := isB_of hb
      simp only [nI_cl (show b < 1000000 by omega)]
      refine am_go cd_M_withdraw hc_M_withdraw 8 2 (pc' := 18) (L' := [some (.ref 40), some (.int (nI b))]) (st' := [.int (nI b), .ref 40]) rfl ?_
      refine cW.callV (st := []) [.int (nI b)] (am_at hc_M_withdraw 10 rfl) g_M_drop (Or.inl (tw 381 rfl rfl)) (tw 383 rfl rfl) (tp 18 rfl rfl) 3 k_r3 rfl (by decide) rfl rfl rfl rfl (Nat.le_of_ble_eq_true rfl) (c_M_drop h hb5) ?_
      rintro _ d1 ⟨rfl, hA, hf⟩
      show cW _ _ (e + 1) _ m_M_withdraw 21 [some (.ref 40), some (.int (nI b))] [] _ _
      refine am_go cd_M_withdraw hc_M_withdraw 11 1 (pc' := 22) (L' := [some (.ref 40), some (.int (nI b))]) (st' := [.ref 40]) rfl ?_
      refine am_getf 3 1 k_r3 (am_at hc_M_withdraw 12 rfl) rfl (by decide) rfl (by decide) k_ok3 (Or.inl (tw 307 rfl rfl)) rfl ?_
      refine am_go cd_M_withdraw hc_M_withdraw 13 2 (pc' := 27) (L' := [some (.ref 40), some (.int (nI b))]) (st' := [.int (nI b), .ref 41, .int (nI b), .ref 41]) rfl ?_
      refine am_iaload (b) (am_at hc_M_withdraw 15 rfl) rfl (Or.inl (by decide)) rfl (by show b < 5; omega) (Nat.le_of_ble_eq_true rfl) ?_
      rw [show d1 41 b = cash b from hA.1 b hb5]
      refine am_go cd_M_withdraw hc_M_withdraw 16 1 (pc' := 29) (L' := [some (.ref 40), some (.int (nI b))]) (st' := [.ref 40, .int (cash b), .int (nI b), .ref 41]) rfl ?_
      refine am_getf 3 2 k_r3 (am_at hc_M_withdraw 17 rfl) rfl (by decide) rfl (by decide) k_ok3 (Or.inl (tw 308 rfl rfl)) rfl ?_
      refine am_go cd_M_withdraw hc_M_withdraw 18 1 (pc' := 33) (L' := [some (.ref 40), some (.int (nI b))]) (st' := [.int (nI b), .ref 42, .int (cash b), .int (nI b), .ref 41]) rfl ?_
      refine am_iaload (b) (am_at hc_M_withdraw 19 rfl) rfl (Or.inl (by decide)) rfl (by show b < 5; omega) (Nat.le_of_ble_eq_true rfl) ?_
      rw [show d1 42 b = esc b from hA.2.1 b hb5]
      refine am_go cd_M_withdraw hc_M_withdraw 20 1 (pc' := 35) (L' := [some (.ref 40), some (.int (nI b))]) (st' := [.int (cash b + esc b), .int (nI b), .ref 41]) rfl ?_
      refine am_iastore (b) (am_at hc_M_withdraw 21 rfl) rfl (by decide) rfl (by show b < 5; omega) (Nat.le_of_ble_eq_true rfl) ?_
      refine am_go cd_M_withdraw hc_M_withdraw 22 1 (pc' := 37) (L' := [some (.ref 40), some (.int (nI b))]) (st' := [.ref 40]) rfl ?_
      refine am_getf 3 2 k_r3 (am_at hc_M_withdraw 23 rfl) rfl (by decide) rfl (by decide) k_ok3 (Or.inl (tw 308 rfl rfl)) rfl ?_
      refine am_go cd_M_withdraw hc_M_withdraw 24 2 (pc' := 42) (L' := [some (.ref 40), some (.int (nI b))]) (st' := [.int 0, .int (nI b), .ref 42]) rfl ?_
      refine am_iastore (b) (am_at hc_M_withdraw 26 rfl) rfl (by decide) rfl (by show b < 5; omega) (Nat.le_of_ble_eq_true rfl) ?_
      refine am_go cd_M_withdraw hc_M_withdraw 27 1 (pc' := 44) (L' := [some (.ref 40), some (.int (nI b))]) (st' := [.int 1]) rfl ?_
      exact am_iret (am_at hc_M_withdraw 28 rfl) rfl rfl ⟨rfl, rfl, rfl, hA.cash.esc, (hf.tr (fM.u (by decide))).tr (fM.u (by decide))⟩
    · simp only [if_neg hb]
      refine am_if_ne 16 (am_at hc_M_withdraw 5 rfl) (by decide) (fun q1 => absurd rfl q1) (fun q1 => ?_)
      have hno : ¬ opB false v := fun z => hb z.2
      simp only [if_neg hno]
      refine am_go cd_M_withdraw hc_M_withdraw 6 1 (pc' := 15) (L' := [some (.ref 40), some (.int v)]) (st' := [.int 0]) rfl ?_
      exact am_iret (am_at hc_M_withdraw 7 rfl) rfl rfl ⟨rfl, rfl, rfl, h, fM.rf⟩
end
section
set_option maxHeartbeats 4000000 in
theorem c_M_cash {l : Launch} {x : am_X} {e L : Nat} {d : am_D} {cash esc pd pt ow : Nat → Int32} {res : Nat → Int} {wt : Nat → Nat → Int} {T : Nat → Nat} {n : Nat} {se : Int32} {cl : Bool} (h : RM cash esc pd pt ow res wt T n se cl d) (v : Int32) : cM l x (e + 1) L m_M_cash [.ref 40, .int v] d (fun r d' => r = some (.int (if isB v then cash (cN v) else -2)) ∧ RM cash esc pd pt ow res wt T n se cl d' ∧ fM d d') := by
  obtain ⟨h1, h2, h3, h4, h5, h6, h7, h8, h9, h10⟩ := id h
  refine cM.go (by decide) (by simp [Value.category]) (Nat.le_of_ble_eq_true rfl) ?_
  refine am_go cd_M_cash hc_M_cash 0 1 (pc' := 1) (L' := [some (.ref 40), some (.int v)]) (st' := [.int v]) rfl ?_
  refine cW.callS1 4 [.int (if isB v then 1 else 0)] (st := []) [.int v] (am_at hc_M_cash 1 rfl) g_M_bidder (Or.inl (tw 368 rfl rfl)) (tw 369 rfl rfl) rfl rfl (Nat.le_of_ble_eq_true rfl) (c_mB v) rfl rfl ?_
  by_cases hb : isB v
  · simp only [if_pos hb]
    refine am_if_eq 16 (am_at hc_M_cash 2 rfl) (by decide) (fun q1 => absurd q1 (by decide)) (fun q1 => ?_)
    obtain ⟨b, hb5, rfl⟩ := isB_of hb
    simp only [nI_cl (show b < 1000000 by omega)]
    refine am_go cd_M_cash hc_M_cash 3 1 (pc' := 8) (L' := [some (.ref 40), some (.int (nI b))]) (st' := [.ref 40]) rfl ?_
    refine am_getf 3 1 k_r3 (am_at hc_M_cash 4 rfl) rfl (by decide) rfl (by decide) k_ok3 (Or.inl (tw 307 rfl rfl)) rfl ?_
    refine am_go cd_M_cash hc_M_cash 5 1 (pc' := 12) (L' := [some (.ref 40), some (.int (nI b))]) (st' := [.int (nI b), .ref 41]) rfl ?_
    refine am_iaload (b) (am_at hc_M_cash 6 rfl) rfl (Or.inl (by decide)) rfl (by show b < 5; omega) (Nat.le_of_ble_eq_true rfl) ?_
    rw [show d 41 b = cash b from h1 b hb5]
    refine am_go cd_M_cash hc_M_cash 7 1 (pc' := 18) (L' := [some (.ref 40), some (.int (nI b))]) (st' := [.int (cash b)]) rfl ?_
    exact am_iret (am_at hc_M_cash 9 rfl) rfl rfl ⟨rfl, rfl, rfl, h, fM.rf⟩
  · simp only [if_neg hb]
    refine am_if_eq 16 (am_at hc_M_cash 2 rfl) (by decide) (fun q1 => ?_) (fun q1 => absurd rfl q1)
    refine am_go cd_M_cash hc_M_cash 8 1 (pc' := 18) (L' := [some (.ref 40), some (.int v)]) (st' := [.int (-2)]) rfl ?_
    exact am_iret (am_at hc_M_cash 9 rfl) rfl rfl ⟨rfl, rfl, rfl, h, fM.rf⟩
set_option maxHeartbeats 4000000 in
theorem c_M_escrow {l : Launch} {x : am_X} {e L : Nat} {d : am_D} {cash esc pd pt ow : Nat → Int32} {res : Nat → Int} {wt : Nat → Nat → Int} {T : Nat → Nat} {n : Nat} {se : Int32} {cl : Bool} (h : RM cash esc pd pt ow res wt T n se cl d) (v : Int32) : cM l x (e + 1) L m_M_escrow [.ref 40, .int v] d (fun r d' => r = some (.int (if isB v then esc (cN v) else -2)) ∧ RM cash esc pd pt ow res wt T n se cl d' ∧ fM d d') := by
  obtain ⟨h1, h2, h3, h4, h5, h6, h7, h8, h9, h10⟩ := id h
  refine cM.go (by decide) (by simp [Value.category]) (Nat.le_of_ble_eq_true rfl) ?_
  refine am_go cd_M_escrow hc_M_escrow 0 1 (pc' := 1) (L' := [some (.ref 40), some (.int v)]) (st' := [.int v]) rfl ?_
  refine cW.callS1 4 [.int (if isB v then 1 else 0)] (st := []) [.int v] (am_at hc_M_escrow 1 rfl) g_M_bidder (Or.inl (tw 368 rfl rfl)) (tw 369 rfl rfl) rfl rfl (Nat.le_of_ble_eq_true rfl) (c_mB v) rfl rfl ?_
  by_cases hb : isB v
  · simp only [if_pos hb]
    refine am_if_eq 16 (am_at hc_M_escrow 2 rfl) (by decide) (fun q1 => absurd q1 (by decide)) (fun q1 => ?_)
    obtain ⟨b, hb5, rfl⟩ := isB_of hb
    simp only [nI_cl (show b < 1000000 by omega)]
    refine am_go cd_M_escrow hc_M_escrow 3 1 (pc' := 8) (L' := [some (.ref 40), some (.int (nI b))]) (st' := [.ref 40]) rfl ?_
    refine am_getf 3 2 k_r3 (am_at hc_M_escrow 4 rfl) rfl (by decide) rfl (by decide) k_ok3 (Or.inl (tw 308 rfl rfl)) rfl ?_
    refine am_go cd_M_escrow hc_M_escrow 5 1 (pc' := 12) (L' := [some (.ref 40), some (.int (nI b))]) (st' := [.int (nI b), .ref 42]) rfl ?_
    refine am_iaload (b) (am_at hc_M_escrow 6 rfl) rfl (Or.inl (by decide)) rfl (by show b < 5; omega) (Nat.le_of_ble_eq_true rfl) ?_
    rw [show d 42 b = esc b from h2 b hb5]
    refine am_go cd_M_escrow hc_M_escrow 7 1 (pc' := 18) (L' := [some (.ref 40), some (.int (nI b))]) (st' := [.int (esc b)]) rfl ?_
    exact am_iret (am_at hc_M_escrow 9 rfl) rfl rfl ⟨rfl, rfl, rfl, h, fM.rf⟩
  · simp only [if_neg hb]
    refine am_if_eq 16 (am_at hc_M_escrow 2 rfl) (by decide) (fun q1 => ?_) (fun q1 => absurd rfl q1)
    refine am_go cd_M_escrow hc_M_escrow 8 1 (pc' := 18) (L' := [some (.ref 40), some (.int v)]) (st' := [.int (-2)]) rfl ?_
    exact am_iret (am_at hc_M_escrow 9 rfl) rfl rfl ⟨rfl, rfl, rfl, h, fM.rf⟩
set_option maxHeartbeats 4000000 in
theorem c_M_parts {l : Launch} {x : am_X} {e L : Nat} {d : am_D} {cash esc pd pt ow : Nat → Int32} {res : Nat → Int} {wt : Nat → Nat → Int} {T : Nat → Nat} {n : Nat} {se : Int32} {cl : Bool} (h : RM cash esc pd pt ow res wt T n se cl d) (v : Int32) : cM l x (e + 1) L m_M_parts [.ref 40, .int v] d (fun r d' => r = some (.int (if isB v then pt (cN v) else -2)) ∧ RM cash esc pd pt ow res wt T n se cl d' ∧ fM d d') := by
  obtain ⟨h1, h2, h3, h4, h5, h6, h7, h8, h9, h10⟩ := id h
  refine cM.go (by decide) (by simp [Value.category]) (Nat.le_of_ble_eq_true rfl) ?_
  refine am_go cd_M_parts hc_M_parts 0 1 (pc' := 1) (L' := [some (.ref 40), some (.int v)]) (st' := [.int v]) rfl ?_
  refine cW.callS1 4 [.int (if isB v then 1 else 0)] (st := []) [.int v] (am_at hc_M_parts 1 rfl) g_M_bidder (Or.inl (tw 368 rfl rfl)) (tw 369 rfl rfl) rfl rfl (Nat.le_of_ble_eq_true rfl) (c_mB v) rfl rfl ?_
  by_cases hb : isB v
  · simp only [if_pos hb]
    refine am_if_eq 16 (am_at hc_M_parts 2 rfl) (by decide) (fun q1 => absurd q1 (by decide)) (fun q1 => ?_)
    obtain ⟨b, hb5, rfl⟩ := isB_of hb
    simp only [nI_cl (show b < 1000000 by omega)]
    refine am_go cd_M_parts hc_M_parts 3 1 (pc' := 8) (L' := [some (.ref 40), some (.int (nI b))]) (st' := [.ref 40]) rfl ?_
    refine am_getf 3 8 k_r3 (am_at hc_M_parts 4 rfl) rfl (by decide) rfl (by decide) k_ok3 (Or.inl (tw 314 rfl rfl)) rfl ?_
    refine am_go cd_M_parts hc_M_parts 5 1 (pc' := 12) (L' := [some (.ref 40), some (.int (nI b))]) (st' := [.int (nI b), .ref 46]) rfl ?_
    refine am_iaload (b) (am_at hc_M_parts 6 rfl) rfl (Or.inl (by decide)) rfl (by show b < 5; omega) (Nat.le_of_ble_eq_true rfl) ?_
    rw [show d 46 b = pt b from h4 b hb5]
    refine am_go cd_M_parts hc_M_parts 7 1 (pc' := 18) (L' := [some (.ref 40), some (.int (nI b))]) (st' := [.int (pt b)]) rfl ?_
    exact am_iret (am_at hc_M_parts 9 rfl) rfl rfl ⟨rfl, rfl, rfl, h, fM.rf⟩
  · simp only [if_neg hb]
    refine am_if_eq 16 (am_at hc_M_parts 2 rfl) (by decide) (fun q1 => ?_) (fun q1 => absurd rfl q1)
    refine am_go cd_M_parts hc_M_parts 8 1 (pc' := 18) (L' := [some (.ref 40), some (.int v)]) (st' := [.int (-2)]) rfl ?_
    exact am_iret (am_at hc_M_parts 9 rfl) rfl rfl ⟨rfl, rfl, rfl, h, fM.rf⟩
set_option maxHeartbeats 4000000 in
theorem c_M_paid {l : Launch} {x : am_X} {e L : Nat} {d : am_D} {cash esc pd pt ow : Nat → Int32} {res : Nat → Int} {wt : Nat → Nat → Int} {T : Nat → Nat} {n : Nat} {se : Int32} {cl : Bool} (h : RM cash esc pd pt ow res wt T n se cl d) (v : Int32) : cM l x (e + 1) L m_M_paid [.ref 40, .int v] d (fun r d' => r = some (.int (if clB cl v then pd (cN v) else -2)) ∧ RM cash esc pd pt ow res wt T n se cl d' ∧ fM d d') := by
  obtain ⟨h1, h2, h3, h4, h5, h6, h7, h8, h9, h10⟩ := id h
  refine cM.go (by decide) (by simp [Value.category]) (Nat.le_of_ble_eq_true rfl) ?_
  refine am_go cd_M_paid hc_M_paid 0 1 (pc' := 1) (L' := [some (.ref 40), some (.int v)]) (st' := [.ref 40]) rfl ?_
  refine am_getf 3 0 k_r3 (am_at hc_M_paid 1 rfl) rfl (by decide) rfl (by decide) k_ok3 (Or.inl (tw 306 rfl rfl)) (congrArg Value.int h10) ?_
  cases cl with
  | false =>
    simp only [bI_f]
    refine am_if_eq 14 (am_at hc_M_paid 2 rfl) (by decide) (fun q0 => ?_) (fun q0 => absurd rfl q0)
    have hno : ¬ clB false v := fun z => by cases z.1
    simp only [if_neg hno]
    refine am_go cd_M_paid hc_M_paid 6 2 (pc' := 25) (L' := [some (.ref 40), some (.int v)]) (st' := [.int (-2)]) rfl ?_
    exact am_iret (am_at hc_M_paid 12 rfl) rfl rfl ⟨rfl, rfl, rfl, h, fM.rf⟩
  | true =>
    simp only [bI_t]
    refine am_if_eq 14 (am_at hc_M_paid 2 rfl) (by decide) (fun q0 => absurd q0 (by decide)) (fun q0 => ?_)
    refine am_go cd_M_paid hc_M_paid 3 1 (pc' := 8) (L' := [some (.ref 40), some (.int v)]) (st' := [.int v]) rfl ?_
    refine cW.callS1 11 [.int (if isB v then 1 else 0)] (st := []) [.int v] (am_at hc_M_paid 4 rfl) g_M_bidder (Or.inl (tw 368 rfl rfl)) (tw 369 rfl rfl) rfl rfl (Nat.le_of_ble_eq_true rfl) (c_mB v) rfl rfl ?_
    by_cases hb : isB v
    · simp only [if_pos hb]
      refine am_if_ne 19 (am_at hc_M_paid 5 rfl) (by decide) (fun q1 => ?_) (fun q1 => absurd q1 (by decide))
      have hok : clB true v := ⟨rfl, hb⟩
      simp only [if_pos hok]
      obtain ⟨b, hb5, rfl⟩ := isB_of hb
      simp only [nI_cl (show b < 1000000 by omega)]
      refine am_go cd_M_paid hc_M_paid 8 1 (pc' := 20) (L' := [some (.ref 40), some (.int (nI b))]) (st' := [.ref 40]) rfl ?_
      refine am_getf 3 18 k_r3 (am_at hc_M_paid 9 rfl) rfl (by decide) rfl (by decide) k_ok3 (Or.inl (tw 324 rfl rfl)) rfl ?_
      refine am_go cd_M_paid hc_M_paid 10 1 (pc' := 24) (L' := [some (.ref 40), some (.int (nI b))]) (st' := [.int (nI b), .ref 52]) rfl ?_
      refine am_iaload (b) (am_at hc_M_paid 11 rfl) rfl (Or.inl (by decide)) rfl (by show b < 5; omega) (Nat.le_of_ble_eq_true rfl) ?_
      rw [show d 52 b = pd b from h3 b hb5]
      exact am_iret (am_at hc_M_paid 12 rfl) rfl rfl ⟨rfl, rfl, rfl, h, fM.rf⟩
    · simp only [if_neg hb]
      refine am_if_ne 19 (am_at hc_M_paid 5 rfl) (by decide) (fun q1 => absurd rfl q1) (fun q1 => ?_)
      have hno : ¬ clB true v := fun z => hb z.2
      simp only [if_neg hno]
      refine am_go cd_M_paid hc_M_paid 6 2 (pc' := 25) (L' := [some (.ref 40), some (.int v)]) (st' := [.int (-2)]) rfl ?_
      exact am_iret (am_at hc_M_paid 12 rfl) rfl rfl ⟨rfl, rfl, rfl, h, fM.rf⟩
set_option maxHeartbeats 4000000 in
theorem c_M_owner {l : Launch} {x : am_X} {e L : Nat} {d : am_D} {cash esc pd pt ow : Nat → Int32} {res : Nat → Int} {wt : Nat → Nat → Int} {T : Nat → Nat} {n : Nat} {se : Int32} {cl : Bool} (h : RM cash esc pd pt ow res wt T n se cl d) (v : Int32) : cM l x e L m_M_owner [.ref 40, .int v] d (fun r d' => r = some (.int (if clI cl v then ow (cN v) else -2)) ∧ RM cash esc pd pt ow res wt T n se cl d' ∧ fM d d') := by
  obtain ⟨h1, h2, h3, h4, h5, h6, h7, h8, h9, h10⟩ := id h
  refine cM.go (by decide) (by simp [Value.category]) (Nat.le_of_ble_eq_true rfl) ?_
  refine am_go cd_M_owner hc_M_owner 0 1 (pc' := 1) (L' := [some (.ref 40), some (.int v)]) (st' := [.ref 40]) rfl ?_
  refine am_getf 3 0 k_r3 (am_at hc_M_owner 1 rfl) rfl (by decide) rfl (by decide) k_ok3 (Or.inl (tw 306 rfl rfl)) (congrArg Value.int h10) ?_
  cases cl with
  | false =>
    simp only [bI_f]
    refine am_if_eq 16 (am_at hc_M_owner 2 rfl) (by decide) (fun q0 => ?_) (fun q0 => absurd rfl q0)
    have hno : ¬ clI false v := fun z => by cases z.1
    simp only [if_neg hno]
    refine am_go cd_M_owner hc_M_owner 8 2 (pc' := 27) (L' := [some (.ref 40), some (.int v)]) (st' := [.int (-2)]) rfl ?_
    exact am_iret (am_at hc_M_owner 14 rfl) rfl rfl ⟨rfl, rfl, rfl, h, fM.rf⟩
  | true =>
    simp only [bI_t]
    refine am_if_eq 16 (am_at hc_M_owner 2 rfl) (by decide) (fun q0 => absurd q0 (by decide)) (fun q0 => ?_)
    refine am_go cd_M_owner hc_M_owner 3 1 (pc' := 8) (L' := [some (.ref 40), some (.int v)]) (st' := [.int v]) rfl ?_
    refine am_if_lt 16 (am_at hc_M_owner 4 rfl) (by decide) (fun qa => ?_) (fun qa => ?_)
    · skip
      have hno : ¬ clI true v := fun z => Int32.not_lt.mpr z.2.1 qa
      simp only [if_neg hno]
      refine am_go cd_M_owner hc_M_owner 8 2 (pc' := 27) (L' := [some (.ref 40), some (.int v)]) (st' := [.int (-2)]) rfl ?_
      exact am_iret (am_at hc_M_owner 14 rfl) rfl rfl ⟨rfl, rfl, rfl, h, fM.rf⟩
    · skip
      refine am_go cd_M_owner hc_M_owner 5 2 (pc' := 13) (L' := [some (.ref 40), some (.int v)]) (st' := [.int 5, .int v]) rfl ?_
      refine am_icmp_le 21 (am_at hc_M_owner 7 rfl) (by decide) (fun qb => ?_) (fun qb => ?_)
      · have hb : isI v := ⟨Int32.not_lt.mp qa, (le5_lt6 v).mp qb⟩
        have hok : clI true v := ⟨rfl, hb⟩
        simp only [if_pos hok]
        obtain ⟨b, hb5, rfl⟩ := isI_of hb
        simp only [nI_cl (show b < 1000000 by omega)]
        refine am_go cd_M_owner hc_M_owner 10 1 (pc' := 22) (L' := [some (.ref 40), some (.int (nI b))]) (st' := [.ref 40]) rfl ?_
        refine am_getf 3 17 k_r3 (am_at hc_M_owner 11 rfl) rfl (by decide) rfl (by decide) k_ok3 (Or.inl (tw 323 rfl rfl)) rfl ?_
        refine am_go cd_M_owner hc_M_owner 12 1 (pc' := 26) (L' := [some (.ref 40), some (.int (nI b))]) (st' := [.int (nI b), .ref 51]) rfl ?_
        refine am_iaload (b) (am_at hc_M_owner 13 rfl) rfl (Or.inl (by decide)) rfl (by show b < 6; omega) (Nat.le_of_ble_eq_true rfl) ?_
        rw [show d 51 b = ow b from h5 b hb5]
        exact am_iret (am_at hc_M_owner 14 rfl) rfl rfl ⟨rfl, rfl, rfl, h, fM.rf⟩
      · skip
        have hno : ¬ clI true v := fun z => qb ((le5_lt6 v).mpr z.2.2)
        simp only [if_neg hno]
        refine am_go cd_M_owner hc_M_owner 8 2 (pc' := 27) (L' := [some (.ref 40), some (.int v)]) (st' := [.int (-2)]) rfl ?_
        exact am_iret (am_at hc_M_owner 14 rfl) rfl rfl ⟨rfl, rfl, rfl, h, fM.rf⟩
set_option maxHeartbeats 4000000 in
theorem c_M_seller {l : Launch} {x : am_X} {e L : Nat} {d : am_D} {cash esc pd pt ow : Nat → Int32} {res : Nat → Int} {wt : Nat → Nat → Int} {T : Nat → Nat} {n : Nat} {se : Int32} {cl : Bool} (h : RM cash esc pd pt ow res wt T n se cl d) : cM l x e L m_M_seller [.ref 40] d (fun r d' => r = some (.int se) ∧ RM cash esc pd pt ow res wt T n se cl d' ∧ fM d d') := by
  obtain ⟨h1, h2, h3, h4, h5, h6, h7, h8, h9, h10⟩ := id h
  refine cM.go (by decide) (by simp [Value.category]) (Nat.le_of_ble_eq_true rfl) ?_
  refine am_go cd_M_seller hc_M_seller 0 1 (pc' := 1) (L' := [some (.ref 40)]) (st' := [.ref 40]) rfl ?_
  refine am_getf 3 3 k_r3 (am_at hc_M_seller 1 rfl) rfl (by decide) rfl (by decide) k_ok3 (Or.inl (tw 309 rfl rfl)) (congrArg Value.int h9) ?_
  exact am_iret (am_at hc_M_seller 2 rfl) rfl rfl ⟨rfl, rfl, rfl, h, fM.rf⟩
set_option maxHeartbeats 4000000 in
theorem c_M_state {l : Launch} {x : am_X} {e L : Nat} {d : am_D} {cash esc pd pt ow : Nat → Int32} {res : Nat → Int} {wt : Nat → Nat → Int} {T : Nat → Nat} {n : Nat} {se : Int32} {cl : Bool} (h : RM cash esc pd pt ow res wt T n se cl d) : cM l x e L m_M_state [.ref 40] d (fun r d' => r = some (.int (bI cl)) ∧ RM cash esc pd pt ow res wt T n se cl d' ∧ fM d d') := by
  obtain ⟨h1, h2, h3, h4, h5, h6, h7, h8, h9, h10⟩ := id h
  refine cM.go (by decide) (by simp [Value.category]) (Nat.le_of_ble_eq_true rfl) ?_
  refine am_go cd_M_state hc_M_state 0 1 (pc' := 1) (L' := [some (.ref 40)]) (st' := [.ref 40]) rfl ?_
  refine am_getf 3 0 k_r3 (am_at hc_M_state 1 rfl) rfl (by decide) rfl (by decide) k_ok3 (Or.inl (tw 306 rfl rfl)) (congrArg Value.int h10) ?_
  cases cl with
  | false =>
    simp only [bI_f]
    refine am_if_eq 11 (am_at hc_M_state 2 rfl) (by decide) (fun q0 => ?_) (fun q0 => absurd rfl q0)
    refine am_go cd_M_state hc_M_state 5 1 (pc' := 12) (L' := [some (.ref 40)]) (st' := [.int 0]) rfl ?_
    exact am_iret (am_at hc_M_state 6 rfl) rfl rfl ⟨rfl, rfl, rfl, h, fM.rf⟩
  | true =>
    simp only [bI_t]
    refine am_if_eq 11 (am_at hc_M_state 2 rfl) (by decide) (fun q0 => absurd q0 (by decide)) (fun q0 => ?_)
    refine am_go cd_M_state hc_M_state 3 2 (pc' := 12) (L' := [some (.ref 40)]) (st' := [.int 1]) rfl ?_
    exact am_iret (am_at hc_M_state 6 rfl) rfl rfl ⟨rfl, rfl, rfl, h, fM.rf⟩
set_option maxHeartbeats 4000000 in
theorem c_M_worth {l : Launch} {x : am_X} {e L : Nat} {d : am_D} {cash esc pd pt ow : Nat → Int32} {res : Nat → Int} {wt : Nat → Nat → Int} {T : Nat → Nat} {n : Nat} {se : Int32} {cl : Bool} (h : RM cash esc pd pt ow res wt T n se cl d) (v m : Int32) : cM l x (e + 1) L m_M_worth [.ref 40, .int v, .int m] d (fun r d' => r = some (.int (if woOk v m then zI (wt (cN v) (cN m)) else -2)) ∧ RM cash esc pd pt ow res wt T n se cl d' ∧ fM d d') := by
  obtain ⟨h1, h2, h3, h4, h5, h6, h7, h8, h9, h10⟩ := id h
  refine cM.go (by decide) (by simp [Value.category]) (Nat.le_of_ble_eq_true rfl) ?_
  refine am_go cd_M_worth hc_M_worth 0 1 (pc' := 1) (L' := [some (.ref 40), some (.int v), some (.int m)]) (st' := [.int v]) rfl ?_
  refine cW.callS1 4 [.int (if isB v then 1 else 0)] (st := []) [.int v] (am_at hc_M_worth 1 rfl) g_M_bidder (Or.inl (tw 368 rfl rfl)) (tw 369 rfl rfl) rfl rfl (Nat.le_of_ble_eq_true rfl) (c_mB v) rfl rfl ?_
  by_cases hb : isB v
  · simp only [if_pos hb]
    refine am_if_eq 17 (am_at hc_M_worth 2 rfl) (by decide) (fun q1 => absurd q1 (by decide)) (fun q1 => ?_)
    refine am_go cd_M_worth hc_M_worth 3 1 (pc' := 8) (L' := [some (.ref 40), some (.int v), some (.int m)]) (st' := [.int m]) rfl ?_
    refine am_if_lt 17 (am_at hc_M_worth 4 rfl) (by decide) (fun q2 => ?_) (fun q2 => ?_)
    · skip
      have hno : ¬ woOk v m := fun z => Int32.not_lt.mpr z.2.1 q2
      simp only [if_neg hno]
      refine am_go cd_M_worth hc_M_worth 8 2 (pc' := 33) (L' := [some (.ref 40), some (.int v), some (.int m)]) (st' := [.int (-2)]) rfl ?_
      exact am_iret (am_at hc_M_worth 18 rfl) rfl rfl ⟨rfl, rfl, rfl, h, fM.rf⟩
    · skip
      refine am_go cd_M_worth hc_M_worth 5 2 (pc' := 14) (L' := [some (.ref 40), some (.int v), some (.int m)]) (st' := [.int 63, .int m]) rfl ?_
      refine am_icmp_le 22 (am_at hc_M_worth 7 rfl) (by decide) (fun q3 => ?_) (fun q3 => ?_)
      · have hok : woOk v m := ⟨hb, Int32.not_lt.mp q2, (le63_lt64 m).mp q3⟩
        simp only [if_pos hok]
        obtain ⟨b, hb5, rfl⟩ := isB_of hb
        obtain ⟨s, hs31, rfl⟩ := nI_of q2
        have hs : s < 64 := (nI_ltI (b := 64) hs31 (by decide)).mp hok.2.2
        simp only [nI_cl (show b < 1000000 by omega), nI_cl (show s < 1000000 by omega)]
        refine am_go cd_M_worth hc_M_worth 10 1 (pc' := 23) (L' := [some (.ref 40), some (.int (nI b)), some (.int (nI s))]) (st' := [.ref 40]) rfl ?_
        refine am_getf 3 7 k_r3 (am_at hc_M_worth 11 rfl) rfl (by decide) rfl (by decide) k_ok3 (Or.inl (tw 313 rfl rfl)) rfl ?_
        refine am_go cd_M_worth hc_M_worth 12 5 (pc' := 32) (L' := [some (.ref 40), some (.int (nI b)), some (.int (nI s))]) (st' := [.int ((64 * nI b) + nI s), .ref 45]) rfl ?_
        refine am_iaload (64 * b + s) (am_at hc_M_worth 17 rfl) rfl (Or.inl (by decide)) (by rw [← nI_add, ← pk_mul]; rfl) (by show 64 * b + s < 320; omega) (Nat.le_of_ble_eq_true rfl) ?_
        rw [show d 45 (64 * b + s) = zI (wt b s) from (h7 b hb5).2 s hs]
        exact am_iret (am_at hc_M_worth 18 rfl) rfl rfl ⟨rfl, rfl, rfl, h, fM.rf⟩
      · skip
        have hno : ¬ woOk v m := fun z => q3 ((le63_lt64 m).mpr z.2.2)
        simp only [if_neg hno]
        refine am_go cd_M_worth hc_M_worth 8 2 (pc' := 33) (L' := [some (.ref 40), some (.int v), some (.int m)]) (st' := [.int (-2)]) rfl ?_
        exact am_iret (am_at hc_M_worth 18 rfl) rfl rfl ⟨rfl, rfl, rfl, h, fM.rf⟩
  · simp only [if_neg hb]
    refine am_if_eq 17 (am_at hc_M_worth 2 rfl) (by decide) (fun q1 => ?_) (fun q1 => absurd rfl q1)
    have hno : ¬ woOk v m := fun z => hb z.1
    simp only [if_neg hno]
    refine am_go cd_M_worth hc_M_worth 8 2 (pc' := 33) (L' := [some (.ref 40), some (.int v), some (.int m)]) (st' := [.int (-2)]) rfl ?_
    exact am_iret (am_at hc_M_worth 18 rfl) rfl rfl ⟨rfl, rfl, rfl, h, fM.rf⟩
set_option maxHeartbeats 4000000 in
theorem c_M_type {l : Launch} {x : am_X} {e L : Nat} {d : am_D} {cash esc pd pt ow : Nat → Int32} {res : Nat → Int} {wt : Nat → Nat → Int} {T : Nat → Nat} {n : Nat} {se : Int32} {cl : Bool} (h : RM cash esc pd pt ow res wt T n se cl d) (v : Int32) : cM l x e L m_M_type [.ref 40, .int v] d (fun r d' => r = some (.int (if tyNo n v then 0 else 1)) ∧ RM cash esc pd pt ow res wt (if tyNo n v then T else (fun j => if j = n then cN v else T j)) (if tyNo n v then n else n + 1) se cl d' ∧ fM d d') := by
  obtain ⟨h1, h2, h3, h4, h5, h6, h7, h8, h9, h10⟩ := id h
  refine cM.go (by decide) (by simp [Value.category]) (Nat.le_of_ble_eq_true rfl) ?_
  have hn40 := h8.2.1
  refine am_go cd_M_type hc_M_type 0 2 (pc' := 3) (L' := [some (.ref 40), some (.int v)]) (st' := [.int 32, .int v]) rfl ?_
  refine am_icmp_lt 21 (am_at hc_M_type 2 rfl) (by decide) (fun q1 => ?_) (fun q1 => ?_)
  · skip
    have hno : tyNo n v := Or.inl q1
    simp only [if_pos hno]
    refine am_go cd_M_type hc_M_type 10 1 (pc' := 22) (L' := [some (.ref 40), some (.int v)]) (st' := [.int 0]) rfl ?_
    exact am_iret (am_at hc_M_type 11 rfl) rfl rfl ⟨rfl, rfl, rfl, h, fM.rf⟩
  · skip
    refine am_go cd_M_type hc_M_type 3 2 (pc' := 9) (L' := [some (.ref 40), some (.int v)]) (st' := [.int 126, .int v]) rfl ?_
    refine am_icmp_gt 21 (am_at hc_M_type 5 rfl) (by decide) (fun q2 => ?_) (fun q2 => ?_)
    · skip
      have hno : tyNo n v := Or.inr (Or.inl q2)
      simp only [if_pos hno]
      refine am_go cd_M_type hc_M_type 10 1 (pc' := 22) (L' := [some (.ref 40), some (.int v)]) (st' := [.int 0]) rfl ?_
      exact am_iret (am_at hc_M_type 11 rfl) rfl rfl ⟨rfl, rfl, rfl, h, fM.rf⟩
    · skip
      refine am_go cd_M_type hc_M_type 6 1 (pc' := 13) (L' := [some (.ref 40), some (.int v)]) (st' := [.ref 40]) rfl ?_
      refine am_getf 3 5 k_r3 (am_at hc_M_type 7 rfl) rfl (by decide) rfl (by decide) k_ok3 (Or.inl (tw 311 rfl rfl)) (congrArg Value.int h8.1) ?_
      refine am_go cd_M_type hc_M_type 8 1 (pc' := 18) (L' := [some (.ref 40), some (.int v)]) (st' := [.int 40, .int (nI n)]) rfl ?_
      refine am_icmp_ne 23 (am_at hc_M_type 9 rfl) (by decide) (fun q3 => ?_) (fun q3 => ?_)
      · have hn : ¬ n = 40 := fun z => q3 (by rw [z]; rfl)
        have hno : ¬ tyNo n v := fun z => by rcases z with z | z | z; exact q1 z; exact q2 z; omega
        obtain ⟨c, hc, hc2, rfl, hnar, hn4⟩ := ty_code hno
        simp only [if_neg hno, nI_cl (show c < 1000000 by omega)]
        refine am_go cd_M_type hc_M_type 12 1 (pc' := 24) (L' := [some (.ref 40), some (.int (nI c))]) (st' := [.ref 40]) rfl ?_
        refine am_getf 3 6 k_r3 (am_at hc_M_type 13 rfl) rfl (by decide) rfl (by decide) k_ok3 (Or.inl (tw 312 rfl rfl)) rfl ?_
        refine am_go cd_M_type hc_M_type 14 1 (pc' := 28) (L' := [some (.ref 40), some (.int (nI c))]) (st' := [.ref 40, .ref 44]) rfl ?_
        refine am_getf 3 5 k_r3 (am_at hc_M_type 15 rfl) rfl (by decide) rfl (by decide) k_ok3 (Or.inl (tw 311 rfl rfl)) (congrArg Value.int h8.1) ?_
        refine am_go cd_M_type hc_M_type 16 1 (pc' := 32) (L' := [some (.ref 40), some (.int (nI c))]) (st' := [.int (nI c), .int (nI n), .ref 44]) rfl ?_
        refine am_iastore (n) (am_at hc_M_type 17 rfl) rfl (by decide) rfl (by show n < 40; omega) (Nat.le_of_ble_eq_true rfl) ?_
        refine am_go cd_M_type hc_M_type 18 2 (pc' := 35) (L' := [some (.ref 40), some (.int (nI c))]) (st' := [.ref 40, .ref 40]) rfl ?_
        refine am_getf 3 5 k_r3 (am_at hc_M_type 20 rfl) rfl (by decide) rfl (by decide) k_ok3 (Or.inl (tw 311 rfl rfl)) (congrArg Value.int ((am_u_o (by omega)).trans h8.1)) ?_
        refine am_go cd_M_type hc_M_type 21 2 (pc' := 40) (L' := [some (.ref 40), some (.int (nI c))]) (st' := [.int (nI n + 1), .ref 40]) rfl ?_
        rw [show nI n + 1 = nI (n + 1) from nI_1 _]
        refine am_putI 3 5 k_r3 (am_at hc_M_type 23 rfl) rfl (by decide) rfl (by decide) k_ok3 (tw 311 rfl rfl) rfl rfl rfl rfl ?_
        refine am_go cd_M_type hc_M_type 24 1 (pc' := 44) (L' := [some (.ref 40), some (.int (nI c))]) (st' := [.int 1]) rfl ?_
        exact am_iret (am_at hc_M_type 25 rfl) rfl rfl ⟨rfl, rfl, rfl, h.n1 hn4 hc, (fM.u (by decide)).tr (fM.u (by decide))⟩
      · have hn : n = 40 := (nI_eq (b := 40) (by omega) (by decide)).mp q3
        have hno : tyNo n v := Or.inr (Or.inr (by omega))
        simp only [if_pos hno]
        refine am_go cd_M_type hc_M_type 10 1 (pc' := 22) (L' := [some (.ref 40), some (.int v)]) (st' := [.int 0]) rfl ?_
        exact am_iret (am_at hc_M_type 11 rfl) rfl rfl ⟨rfl, rfl, rfl, h, fM.rf⟩
set_option maxHeartbeats 4000000 in
theorem c_M_reopen {l : Launch} {x : am_X} {e L : Nat} {d : am_D} {cash esc pd pt ow : Nat → Int32} {res : Nat → Int} {wt : Nat → Nat → Int} {T : Nat → Nat} {n : Nat} {se : Int32} {cl : Bool} (h : RM cash esc pd pt ow res wt T n se cl d) : cM l x (e + 1) L m_M_reopen [.ref 40] d (fun r d' => r = some (.int (bI cl)) ∧ RM cash esc pd (if cl = true then fun b => if b < 5 then 0 else pt b else pt) ow res (if cl = true then fun b => if b < 5 then (fun _ => 0) else wt b else wt) T n se false d' ∧ fM d d') := by
  obtain ⟨h1, h2, h3, h4, h5, h6, h7, h8, h9, h10⟩ := id h
  refine cM.go (by decide) (by simp [Value.category]) (Nat.le_of_ble_eq_true rfl) ?_
  refine am_go cd_M_reopen hc_M_reopen 0 1 (pc' := 1) (L' := [some (.ref 40), none]) (st' := [.ref 40]) rfl ?_
  refine am_getf 3 0 k_r3 (am_at hc_M_reopen 1 rfl) rfl (by decide) rfl (by decide) k_ok3 (Or.inl (tw 306 rfl rfl)) (congrArg Value.int h10) ?_
  cases cl with
  | false =>
    simp only [bI_f]
    refine am_if_ne 9 (am_at hc_M_reopen 2 rfl) (by decide) (fun q0 => absurd rfl q0) (fun q0 => ?_)
    refine am_go cd_M_reopen hc_M_reopen 3 1 (pc' := 8) (L' := [some (.ref 40), none]) (st' := [.int 0]) rfl ?_
    exact am_iret (am_at hc_M_reopen 4 rfl) rfl rfl ⟨rfl, rfl, rfl, h, fM.rf⟩
  | true =>
    simp only [bI_t]
    refine am_if_ne 9 (am_at hc_M_reopen 2 rfl) (by decide) (fun q0 => ?_) (fun q0 => absurd q0 (by decide))
    refine am_go cd_M_reopen hc_M_reopen 5 2 (pc' := 11) (L' := [some (.ref 40), none]) (st' := [.int 0, .ref 40]) rfl ?_
    refine am_putI 3 0 k_r3 (am_at hc_M_reopen 7 rfl) rfl (by decide) rfl (by decide) k_ok3 (tw 306 rfl rfl) rfl rfl rfl rfl ?_
    have hcl := h.cl (c := false)
    refine am_go cd_M_reopen hc_M_reopen 8 2 (pc' := 16) (L' := [some (.ref 40), some (.int 0)]) (st' := []) rfl ?_
    have loop : ∀ q k d1, k + q = 5 → RM cash esc pd (fun b => if b < k then 0 else pt b) ow res (fun b => if b < k then (fun _ => 0) else wt b) T n se false d1 → fM d d1 → cW l x (e + 1) L m_M_reopen 16 [some (.ref 40), some (.int (nI k))] [] d1 (fun r d' => r = some (.int 1) ∧ RM cash esc pd (fun b => if b < 5 then 0 else pt b) ow res (fun b => if b < 5 then (fun _ => 0) else wt b) T n se false d' ∧ fM d d') := by
      intro q
      induction q with
      | zero =>
        intro k d1 hk hA hf
        have hk5 : k = 5 := by omega
        subst hk5
        refine am_go cd_M_reopen hc_M_reopen 10 2 (pc' := 18) (L' := [some (.ref 40), some (.int (nI 5))]) (st' := [.int 5, .int (nI 5)]) rfl ?_
        refine am_icmp_ge 32 (am_at hc_M_reopen 12 rfl) (by decide) (fun q1 => ?_) (fun q1 => absurd (nI_le (a := 5) (b := 5) (by omega) (by omega)) q1)
        refine am_go cd_M_reopen hc_M_reopen 18 1 (pc' := 33) (L' := [some (.ref 40), some (.int (nI 5))]) (st' := [.int 1]) rfl ?_
        exact am_iret (am_at hc_M_reopen 19 rfl) rfl rfl ⟨rfl, rfl, rfl, hA, hf⟩
      | succ q ih =>
        intro k d1 hk hA hf
        refine am_go cd_M_reopen hc_M_reopen 10 2 (pc' := 18) (L' := [some (.ref 40), some (.int (nI k))]) (st' := [.int 5, .int (nI k)]) rfl ?_
        refine am_icmp_ge 32 (am_at hc_M_reopen 12 rfl) (by decide) (fun q1 => absurd q1 (nI_ge (a := k) (b := 5) (by omega) (by omega))) (fun q1 => ?_)
        refine am_go cd_M_reopen hc_M_reopen 13 2 (pc' := 23) (L' := [some (.ref 40), some (.int (nI k))]) (st' := [.int (nI k), .ref 40]) rfl ?_
        refine cW.callV (st := []) [.int (nI k)] (am_at hc_M_reopen 15 rfl) g_M_drop (Or.inl (tw 381 rfl rfl)) (tw 383 rfl rfl) (tp 18 rfl rfl) 3 k_r3 rfl (by decide) rfl rfl rfl rfl (Nat.le_of_ble_eq_true rfl) (c_M_drop hA (by omega : k < 5)) ?_
        rintro _ d2 ⟨rfl, hA2, hf2⟩
        show cW _ _ (e + 1) _ m_M_reopen 26 [some (.ref 40), some (.int (nI k))] [] _ _
        refine am_go cd_M_reopen hc_M_reopen 16 2 (pc' := 16) (L' := [some (.ref 40), some (.int (nI k + 1))]) (st' := []) rfl ?_
        rw [nI_1]
        refine ih (k + 1) d2 (by omega) ?_ (hf.tr hf2)
        have e1 : updw (fun b => if b < k then (fun _ => 0) else wt b) k (fun _ => 0) = (fun b => if b < (k + 1) then (fun _ => 0) else wt b) := by
          funext b; unfold updw; by_cases z : b = k; · simp [z]
          by_cases z2 : b < k
          · simp [z, z2, show b < k + 1 by omega]
          · simp [z, z2, show ¬ b < k + 1 by omega]
        have e2 : upd (fun b => if b < k then 0 else pt b) k 0 = (fun b => if b < (k + 1) then 0 else pt b) := by
          funext b; unfold upd; by_cases z : b = k; · simp [z]
          by_cases z2 : b < k
          · simp [z, z2, show b < k + 1 by omega]
          · simp [z, z2, show ¬ b < k + 1 by omega]
        rw [e1, e2] at hA2
        exact hA2
    exact loop 5 0 _ rfl (by simp only [Nat.not_lt_zero, if_false]; exact hcl) (fM.u (by decide))
end
section
/-- an allocation by its number: the owner of an item, what the seller keeps, what each bidder gets -/
def dgt (m j : Nat) : Nat := m / 6 ^ (5 - j) % 6
def srr (res : Nat → Int) (m : Nat) : Nat → Int
  | 0 => 0
  | i + 1 => srr res m i + if dgt m (5 - i) = 0 then res (5 - i) else 0
def gbr (m b : Nat) : Nat → Nat
  | 0 => 0
  | i + 1 => if dgt m (5 - i) = b + 1 then gbr m b i ||| 2 ^ (5 - i) else gbr m b i
def swf (wt : Nat → Nat → Int) (m : Nat) (s0 : Int) : Nat → Int
  | 0 => s0
  | k + 1 => swf wt m s0 k + wt k (gbr m k 6)
def wof (wt : Nat → Nat → Int) (res : Nat → Int) (lo : Int) (m : Nat) : Int := if 0 ≤ lo ∧ gbr m lo.toNat 6 ≠ 0 then -1 else swf wt m (srr res m 6) 5
def bo (wt : Nat → Nat → Int) (res : Nat → Int) (lo : Int) : Nat → Int × Nat
  | 0 => (-1, 0)
  | m + 1 => if (bo wt res lo m).1 < wof wt res lo m then (wof wt res lo m, m) else bo wt res lo m
theorem dgt_lt (m j : Nat) : dgt m j < 6 := Nat.mod_lt _ (by decide)
theorem gbr_lt (m b : Nat) : ∀ i, i ≤ 6 → gbr m b i < 64
  | 0, _ => by show 0 < 64; decide
  | i + 1, h => by
    have ih := gbr_lt m b i (by omega)
    unfold gbr
    split
    · exact Nat.or_lt_two_pow (n := 6) ih (by have : 2 ^ (5 - i) ≤ 2 ^ 5 := Nat.pow_le_pow_right (by decide) (by omega); omega)
    · exact ih
theorem srr_b {res : Nat → Int} (hres : ∀ j, j < 6 → 0 ≤ res j ∧ res j ≤ 999) (m : Nat) : ∀ i, i ≤ 6 → 0 ≤ srr res m i ∧ srr res m i ≤ 999 * i
  | 0, _ => by show 0 ≤ (0 : Int) ∧ (0 : Int) ≤ _; omega
  | i + 1, h => by
    have ih := srr_b hres m i (by omega)
    have := hres (5 - i) (by omega)
    unfold srr
    split <;> omega
theorem swf_b {wt : Nat → Nat → Int} (hwt : ∀ b, b < 5 → tb_ok (wt b)) (m : Nat) {s0 : Int} (h0 : 0 ≤ s0 ∧ s0 ≤ 5994) : ∀ k, k ≤ 5 → 0 ≤ swf wt m s0 k ∧ swf wt m s0 k ≤ 5994 + 5994 * k
  | 0, _ => by show 0 ≤ s0 ∧ s0 ≤ _; omega
  | k + 1, h => by
    have ih := swf_b hwt m h0 k (by omega)
    have := (hwt k (by omega)).b (gbr_lt m k 6 (by omega))
    show 0 ≤ swf wt m s0 k + wt k (gbr m k 6) ∧ swf wt m s0 k + wt k (gbr m k 6) ≤ _
    omega
theorem wof_b {wt : Nat → Nat → Int} {res : Nat → Int} (hwt : ∀ b, b < 5 → tb_ok (wt b)) (hres : ∀ j, j < 6 → 0 ≤ res j ∧ res j ≤ 999) (lo : Int) (m : Nat) : -1 ≤ wof wt res lo m ∧ wof wt res lo m ≤ 100000 := by
  unfold wof
  have h0 := srr_b hres m 6 (by decide)
  have := swf_b hwt m (s0 := srr res m 6) (by omega) 5 (by decide)
  split <;> omega
theorem bo_b {wt : Nat → Nat → Int} {res : Nat → Int} (hwt : ∀ b, b < 5 → tb_ok (wt b)) (hres : ∀ j, j < 6 → 0 ≤ res j ∧ res j ≤ 999) (lo : Int) : ∀ m, (-1 ≤ (bo wt res lo m).1 ∧ (bo wt res lo m).1 ≤ 100000) ∧ (bo wt res lo m).2 ≤ m
  | 0 => by show ((-1 : Int) ≤ -1 ∧ (-1 : Int) ≤ 100000) ∧ 0 ≤ 0; omega
  | m + 1 => by
    have ih := bo_b hwt hres lo m
    have := wof_b hwt hres lo m
    unfold bo
    split
    · exact ⟨this, by show m ≤ m + 1; omega⟩
    · omega
set_option maxHeartbeats 4000000 in
theorem c_M_welfareOf {l : Launch} {x : am_X} {e L : Nat} {d : am_D} {cash esc pd pt ow : Nat → Int32} {res : Nat → Int} {wt : Nat → Nat → Int} {T : Nat → Nat} {n : Nat} {se : Int32} {cl : Bool} (h : RM cash esc pd pt ow res wt T n se cl d) {m : Nat} {lo : Int} (hm : m < 46656) (hl1 : -1 ≤ lo) (hl2 : lo ≤ 4) : cM l x e L m_M_welfareOf [.ref 40, .int (nI m), .int (zI lo)] d (fun r d' => r = some (.int (zI (wof wt res lo m))) ∧ RM cash esc pd pt ow res wt T n se cl d' ∧ fM d d' ∧ ∀ b, b < 5 → d' 50 b = nI (gbr m b 6)) := by
  obtain ⟨h1, h2, h3, h4, h5, h6, h7, h8, h9, h10⟩ := id h
  refine cM.go (by decide) (by simp [Value.category]) (Nat.le_of_ble_eq_true rfl) ?_
  have hwt : ∀ b, b < 5 → tb_ok (wt b) := fun b hb => (h7 b hb).1
  have hres : ∀ j, j < 6 → 0 ≤ res j ∧ res j ≤ 999 := fun j hj => (h6 j hj).2
  refine am_go cd_M_welfareOf hc_M_welfareOf 0 6 (pc' := 8) (L' := [some (.ref 40), some (.int (nI m)), some (.int (zI lo)), some (.int 0), some (.int (nI m)), some (.int 0), none]) (st' := []) rfl ?_
  have hoff : ∀ d1 : am_D, (∀ a, a ≠ 50 → d1 a = d a) → RM cash esc pd pt ow res wt T n se cl d1 ∧ fM d d1 := fun d1 hd => ⟨h.off (fun j _ => by rw [hd 40 (by decide)]) (fun a ha => hd a (by omega)), fun a ha => hd a (by omega)⟩
  have loop3 : wof wt res lo m = swf wt m (srr res m 6) 5 → ∀ d1 : am_D, (∀ a, a ≠ 50 → d1 a = d a) → (∀ b, b < 5 → d1 50 b = nI (gbr m b 6)) → ∀ q k, k + q = 5 → cW l x e L m_M_welfareOf 115 [some (.ref 40), some (.int (nI m)), some (.int (zI lo)), some (.int (zI (swf wt m (srr res m 6) k))), none, some (.int (nI k)), none] [] d1 (fun r d' => r = some (.int (zI (wof wt res lo m))) ∧ RM cash esc pd pt ow res wt T n se cl d' ∧ fM d d' ∧ ∀ b, b < 5 → d' 50 b = nI (gbr m b 6)) := by
    intro hw d1 hd hg q
    have hR := hoff d1 hd
    induction q with
    | zero =>
      intro k hk
      have hk5 : k = 5 := by omega
      subst hk5
      refine am_go cd_M_welfareOf hc_M_welfareOf 67 2 (pc' := 118) (L' := [some (.ref 40), some (.int (nI m)), some (.int (zI lo)), some (.int (zI (swf wt m (srr res m 6) 5))), none, some (.int (nI 5)), none]) (st' := [.int 5, .int (nI 5)]) rfl ?_
      refine am_icmp_ge 148 (am_at hc_M_welfareOf 69 rfl) (by decide) (fun q1 => ?_) (fun q1 => absurd (nI_le (a := 5) (b := 5) (by omega) (by omega)) q1)
      refine am_go cd_M_welfareOf hc_M_welfareOf 86 1 (pc' := 149) (L' := [some (.ref 40), some (.int (nI m)), some (.int (zI lo)), some (.int (zI (swf wt m (srr res m 6) 5))), none, some (.int (nI 5)), none]) (st' := [.int (zI (swf wt m (srr res m 6) 5))]) rfl ?_
      exact am_iret (am_at hc_M_welfareOf 87 rfl) rfl rfl ⟨rfl, rfl, by rw [hw], hR.1, hR.2, hg⟩
    | succ q ih =>
      intro k hk
      have hgl := gbr_lt m k 6 (by decide)
      refine am_go cd_M_welfareOf hc_M_welfareOf 67 2 (pc' := 118) (L' := [some (.ref 40), some (.int (nI m)), some (.int (zI lo)), some (.int (zI (swf wt m (srr res m 6) k))), none, some (.int (nI k)), none]) (st' := [.int 5, .int (nI k)]) rfl ?_
      refine am_icmp_ge 148 (am_at hc_M_welfareOf 69 rfl) (by decide) (fun q1 => absurd q1 (nI_ge (a := k) (b := 5) (by omega) (by omega))) (fun q1 => ?_)
      refine am_go cd_M_welfareOf hc_M_welfareOf 70 2 (pc' := 123) (L' := [some (.ref 40), some (.int (nI m)), some (.int (zI lo)), some (.int (zI (swf wt m (srr res m 6) k))), none, some (.int (nI k)), none]) (st' := [.ref 40, .int (zI (swf wt m (srr res m 6) k))]) rfl ?_
      refine am_getf 3 7 k_r3 (am_at hc_M_welfareOf 72 rfl) rfl (by decide) rfl (by decide) k_ok3 (Or.inl (tw 313 rfl rfl)) rfl ?_
      refine am_go cd_M_welfareOf hc_M_welfareOf 73 4 (pc' := 132) (L' := [some (.ref 40), some (.int (nI m)), some (.int (zI lo)), some (.int (zI (swf wt m (srr res m 6) k))), none, some (.int (nI k)), none]) (st' := [.ref 40, .int (64 * nI k), .ref 45, .int (zI (swf wt m (srr res m 6) k))]) rfl ?_
      refine am_getf 3 16 k_r3 (am_at hc_M_welfareOf 77 rfl) rfl (by decide) rfl (by decide) k_ok3 (Or.inl (tw 322 rfl rfl)) rfl ?_
      refine am_go cd_M_welfareOf hc_M_welfareOf 78 1 (pc' := 137) (L' := [some (.ref 40), some (.int (nI m)), some (.int (zI lo)), some (.int (zI (swf wt m (srr res m 6) k))), none, some (.int (nI k)), none]) (st' := [.int (nI k), .ref 50, .int (64 * nI k), .ref 45, .int (zI (swf wt m (srr res m 6) k))]) rfl ?_
      refine am_iaload (k) (am_at hc_M_welfareOf 79 rfl) rfl (Or.inl (by decide)) rfl (by show k < 5; omega) (Nat.le_of_ble_eq_true rfl) ?_
      rw [show d1 50 k = nI (gbr m k 6) from hg k (by omega)]
      refine am_go cd_M_welfareOf hc_M_welfareOf 80 1 (pc' := 139) (L' := [some (.ref 40), some (.int (nI m)), some (.int (zI lo)), some (.int (zI (swf wt m (srr res m 6) k))), none, some (.int (nI k)), none]) (st' := [.int ((64 * nI k) + nI (gbr m k 6)), .ref 45, .int (zI (swf wt m (srr res m 6) k))]) rfl ?_
      refine am_iaload (64 * k + gbr m k 6) (am_at hc_M_welfareOf 81 rfl) rfl (Or.inl (by decide)) (by rw [← nI_add, ← pk_mul]; rfl) (by show 64 * k + gbr m k 6 < 320; omega) (Nat.le_of_ble_eq_true rfl) ?_
      rw [show d1 45 (64 * k + gbr m k 6) = zI (wt k (gbr m k 6)) from (hR.1.2.2.2.2.2.2.1 k (by omega)).2 _ hgl]
      refine am_go cd_M_welfareOf hc_M_welfareOf 82 1 (pc' := 141) (L' := [some (.ref 40), some (.int (nI m)), some (.int (zI lo)), some (.int (zI (swf wt m (srr res m 6) k))), none, some (.int (nI k)), none]) (st' := [.int (zI (swf wt m (srr res m 6) k) + zI (wt k (gbr m k 6)))]) rfl ?_
      rw [show zI (swf wt m (srr res m 6) k) + zI (wt k (gbr m k 6)) = zI (swf wt m (srr res m 6) (k + 1)) from zI_add _ _]
      refine am_go cd_M_welfareOf hc_M_welfareOf 83 3 (pc' := 115) (L' := [some (.ref 40), some (.int (nI m)), some (.int (zI lo)), some (.int (zI (swf wt m (srr res m 6) (k + 1)))), none, some (.int (nI k + 1)), none]) (st' := []) rfl ?_
      rw [nI_1]
      exact ih (k + 1) (by omega)
  have mid : ∀ d1 : am_D, (∀ a, a ≠ 50 → d1 a = d a) → (∀ b, b < 5 → d1 50 b = nI (gbr m b 6)) → cW l x e L m_M_welfareOf 97 [some (.ref 40), some (.int (nI m)), some (.int (zI lo)), some (.int (zI (srr res m 6))), none, none, none] [] d1 (fun r d' => r = some (.int (zI (wof wt res lo m))) ∧ RM cash esc pd pt ow res wt T n se cl d' ∧ fM d d' ∧ ∀ b, b < 5 → d' 50 b = nI (gbr m b 6)) := by
    intro d1 hd hg
    have hR := hoff d1 hd
    refine am_go cd_M_welfareOf hc_M_welfareOf 56 1 (pc' := 98) (L' := [some (.ref 40), some (.int (nI m)), some (.int (zI lo)), some (.int (zI (srr res m 6))), none, none, none]) (st' := [.int (zI lo)]) rfl ?_
    refine am_if_lt 112 (am_at hc_M_welfareOf 57 rfl) (by decide) (fun q1 => ?_) (fun q1 => ?_)
    · have hlo : lo < 0 := (zI_lt (b := 0) (by omega) (by omega) (by omega) (by omega)).mp q1
      have hw : wof wt res lo m = swf wt m (srr res m 6) 5 := if_neg (fun z => by omega)
      refine am_go cd_M_welfareOf hc_M_welfareOf 65 2 (pc' := 115) (L' := [some (.ref 40), some (.int (nI m)), some (.int (zI lo)), some (.int (zI (srr res m 6))), none, some (.int 0), none]) (st' := []) rfl ?_
      exact loop3 hw d1 hd hg 5 0 rfl
    · have hlo : 0 ≤ lo := Int.not_lt.mp (fun z => q1 ((zI_lt (b := 0) (by omega) (by omega) (by omega) (by omega)).mpr z))
      obtain ⟨k, rfl⟩ := Int.eq_ofNat_of_zero_le hlo
      have hgl := gbr_lt m k 6 (by decide)
      refine am_go cd_M_welfareOf hc_M_welfareOf 58 1 (pc' := 102) (L' := [some (.ref 40), some (.int (nI m)), some (.int (zI (k : Int))), some (.int (zI (srr res m 6))), none, none, none]) (st' := [.ref 40]) rfl ?_
      refine am_getf 3 16 k_r3 (am_at hc_M_welfareOf 59 rfl) rfl (by decide) rfl (by decide) k_ok3 (Or.inl (tw 322 rfl rfl)) rfl ?_
      refine am_go cd_M_welfareOf hc_M_welfareOf 60 1 (pc' := 106) (L' := [some (.ref 40), some (.int (nI m)), some (.int (zI (k : Int))), some (.int (zI (srr res m 6))), none, none, none]) (st' := [.int (zI (k : Int)), .ref 50]) rfl ?_
      refine am_iaload (k) (am_at hc_M_welfareOf 61 rfl) rfl (Or.inl (by decide)) (nI_zI k).symm (by show k < 5; omega) (Nat.le_of_ble_eq_true rfl) ?_
      rw [show d1 50 k = nI (gbr m k 6) from hg k (by omega)]
      refine am_if_eq 112 (am_at hc_M_welfareOf 62 rfl) (by decide) (fun q2 => ?_) (fun q2 => ?_)
      · have hz : gbr m k 6 = 0 := (nI_eq (b := 0) (by omega) (by omega)).mp q2
        have hw : wof wt res (k : Int) m = swf wt m (srr res m 6) 5 := if_neg (fun z => z.2 (by simpa using hz))
        refine am_go cd_M_welfareOf hc_M_welfareOf 65 2 (pc' := 115) (L' := [some (.ref 40), some (.int (nI m)), some (.int (zI (k : Int))), some (.int (zI (srr res m 6))), none, some (.int 0), none]) (st' := []) rfl ?_
        exact loop3 hw d1 hd hg 5 0 rfl
      · have hz : ¬ gbr m k 6 = 0 := fun z => q2 (by rw [z]; rfl)
        have hw : wof wt res (k : Int) m = -1 := if_pos ⟨hlo, by simpa using hz⟩
        refine am_go cd_M_welfareOf hc_M_welfareOf 63 1 (pc' := 111) (L' := [some (.ref 40), some (.int (nI m)), some (.int (zI (k : Int))), some (.int (zI (srr res m 6))), none, none, none]) (st' := [.int (-1)]) rfl ?_
        exact am_iret (am_at hc_M_welfareOf 64 rfl) rfl rfl ⟨rfl, rfl, by rw [hw]; rfl, hR.1, hR.2, hg⟩
  have loop2 : ∀ k, k ≤ 6 → ∀ d1 : am_D, (∀ a, a ≠ 50 → d1 a = d a) → (∀ b, b < 5 → d1 50 b = nI (gbr m b (6 - k))) → cW l x e L m_M_welfareOf 31 [some (.ref 40), some (.int (nI m)), some (.int (zI lo)), some (.int (zI (srr res m (6 - k)))), some (.int (nI (m / 6 ^ (6 - k)))), some (.int (nI k - 1)), none] [] d1 (fun r d' => r = some (.int (zI (wof wt res lo m))) ∧ RM cash esc pd pt ow res wt T n se cl d' ∧ fM d d' ∧ ∀ b, b < 5 → d' 50 b = nI (gbr m b 6)) := by
    intro k
    induction k with
    | zero =>
      intro hk d1 hd hg
      refine am_go cd_M_welfareOf hc_M_welfareOf 18 1 (pc' := 33) (L' := [some (.ref 40), some (.int (nI m)), some (.int (zI lo)), some (.int (zI (srr res m (6 - 0)))), some (.int (nI (m / 6 ^ (6 - 0)))), some (.int (nI 0 - 1)), none]) (st' := [.int (nI 0 - 1)]) rfl ?_
      refine am_if_lt 97 (am_at hc_M_welfareOf 19 rfl) (by decide) (fun q1 => ?_) (fun q1 => absurd (by decide) q1)
      refine am_weak (L' := [some (.ref 40), some (.int (nI m)), some (.int (zI lo)), some (.int (zI (srr res m (6 - 0)))), none, none, none]) ⟨rfl, rfl, rfl, rfl, trivial⟩ ?_
      exact mid d1 hd hg
    | succ j ih =>
      intro hk d1 hd hg
      rw [nI_pred]
      have hq : m / 6 ^ (6 - (j + 1)) < 46656 := Nat.lt_of_le_of_lt (Nat.div_le_self _ _) hm
      rw [show 6 - (j + 1) = 5 - j by omega] at hq hg ⊢
      have e6 : 6 - j = 5 - j + 1 := by omega
      have e5 : 5 - (5 - j) = j := by omega
      have hdg : m / 6 ^ (5 - j) % 6 = dgt m j := rfl
      have hdl := dgt_lt m j
      refine am_go cd_M_welfareOf hc_M_welfareOf 18 1 (pc' := 33) (L' := [some (.ref 40), some (.int (nI m)), some (.int (zI lo)), some (.int (zI (srr res m (5 - j)))), some (.int (nI (m / 6 ^ (5 - j)))), some (.int (nI j)), none]) (st' := [.int (nI j)]) rfl ?_
      refine am_if_lt 97 (am_at hc_M_welfareOf 19 rfl) (by decide) (fun q1 => absurd q1 (nI_pos (by omega))) (fun q1 => ?_)
      refine am_go cd_M_welfareOf hc_M_welfareOf 20 2 (pc' := 40) (L' := [some (.ref 40), some (.int (nI m)), some (.int (zI lo)), some (.int (zI (srr res m (5 - j)))), some (.int (nI (m / 6 ^ (5 - j)))), some (.int (nI j)), none]) (st' := [.int 6, .int (nI (m / 6 ^ (5 - j)))]) rfl ?_
      refine am_irem (am_at hc_M_welfareOf 22 rfl) (by decide) ?_
      rw [show nI (m / 6 ^ (5 - j)) - nI (m / 6 ^ (5 - j)) / 6 * 6 = nI (dgt m j) from pk_rem (d := 6) (by omega) (by decide) (by decide)]
      refine am_go cd_M_welfareOf hc_M_welfareOf 23 3 (pc' := 47) (L' := [some (.ref 40), some (.int (nI m)), some (.int (zI lo)), some (.int (zI (srr res m (5 - j)))), some (.int (nI (m / 6 ^ (5 - j)))), some (.int (nI j)), some (.int (nI (dgt m j)))]) (st' := [.int 6, .int (nI (m / 6 ^ (5 - j)))]) rfl ?_
      refine am_idiv (am_at hc_M_welfareOf 26 rfl) (by decide) ?_
      rw [show nI (m / 6 ^ (5 - j)) / 6 = nI (m / 6 ^ (6 - j)) from by rw [show (6 : Int32) = nI 6 from rfl, pk_div (by omega) (by decide) (by decide), Nat.div_div_eq_div_mul, ← Nat.pow_succ, show (5 - j).succ = 6 - j by omega]]
      refine am_go cd_M_welfareOf hc_M_welfareOf 27 2 (pc' := 52) (L' := [some (.ref 40), some (.int (nI m)), some (.int (zI lo)), some (.int (zI (srr res m (5 - j)))), some (.int (nI (m / 6 ^ (6 - j)))), some (.int (nI j)), some (.int (nI (dgt m j)))]) (st' := [.int (nI (dgt m j))]) rfl ?_
      refine am_if_ne 68 (am_at hc_M_welfareOf 29 rfl) (by decide) (fun q2 => ?_) (fun q2 => ?_)
      · have hz : ¬ dgt m j = 0 := fun z => q2 (by rw [z]; rfl)
        obtain ⟨k, hk1⟩ : ∃ k, dgt m j = k + 1 := ⟨dgt m j - 1, by omega⟩
        have hgl := gbr_lt m k (5 - j) (by omega)
        rw [hk1]
        refine am_go cd_M_welfareOf hc_M_welfareOf 38 1 (pc' := 69) (L' := [some (.ref 40), some (.int (nI m)), some (.int (zI lo)), some (.int (zI (srr res m (5 - j)))), some (.int (nI (m / 6 ^ (6 - j)))), some (.int (nI j)), some (.int (nI (k + 1)))]) (st' := [.ref 40]) rfl ?_
        refine am_getf 3 16 k_r3 (am_at hc_M_welfareOf 39 rfl) rfl (by decide) rfl (by decide) k_ok3 (Or.inl (tw 322 rfl rfl)) rfl ?_
        refine am_go cd_M_welfareOf hc_M_welfareOf 40 3 (pc' := 76) (L' := [some (.ref 40), some (.int (nI m)), some (.int (zI lo)), some (.int (zI (srr res m (5 - j)))), some (.int (nI (m / 6 ^ (6 - j)))), some (.int (nI j)), some (.int (nI (k + 1)))]) (st' := [.int (nI (k + 1) - 1), .ref 50]) rfl ?_
        rw [show nI (k + 1) - 1 = nI k from nI_pred k]
        refine am_go cd_M_welfareOf hc_M_welfareOf 43 1 (pc' := 77) (L' := [some (.ref 40), some (.int (nI m)), some (.int (zI lo)), some (.int (zI (srr res m (5 - j)))), some (.int (nI (m / 6 ^ (6 - j)))), some (.int (nI j)), some (.int (nI (k + 1)))]) (st' := [.ref 40, .int (nI k), .ref 50]) rfl ?_
        refine am_getf 3 16 k_r3 (am_at hc_M_welfareOf 44 rfl) rfl (by decide) rfl (by decide) k_ok3 (Or.inl (tw 322 rfl rfl)) rfl ?_
        refine am_go cd_M_welfareOf hc_M_welfareOf 45 3 (pc' := 84) (L' := [some (.ref 40), some (.int (nI m)), some (.int (zI lo)), some (.int (zI (srr res m (5 - j)))), some (.int (nI (m / 6 ^ (6 - j)))), some (.int (nI j)), some (.int (nI (k + 1)))]) (st' := [.int (nI (k + 1) - 1), .ref 50, .int (nI k), .ref 50]) rfl ?_
        rw [show nI (k + 1) - 1 = nI k from nI_pred k]
        refine am_iaload (k) (am_at hc_M_welfareOf 48 rfl) rfl (Or.inl (by decide)) rfl (by show k < 5; omega) (Nat.le_of_ble_eq_true rfl) ?_
        rw [show d1 50 k = nI (gbr m k (5 - j)) from hg k (by omega)]
        refine am_go cd_M_welfareOf hc_M_welfareOf 49 3 (pc' := 89) (L' := [some (.ref 40), some (.int (nI m)), some (.int (zI lo)), some (.int (zI (srr res m (5 - j)))), some (.int (nI (m / 6 ^ (6 - j)))), some (.int (nI j)), some (.int (nI (k + 1)))]) (st' := [.int (1 <<< (nI j &&& 31)), .int (nI (gbr m k (5 - j))), .int (nI k), .ref 50]) rfl ?_
        rw [nI_one j (by omega)]
        refine am_go cd_M_welfareOf hc_M_welfareOf 52 1 (pc' := 90) (L' := [some (.ref 40), some (.int (nI m)), some (.int (zI lo)), some (.int (zI (srr res m (5 - j)))), some (.int (nI (m / 6 ^ (6 - j)))), some (.int (nI j)), some (.int (nI (k + 1)))]) (st' := [.int (nI (gbr m k (5 - j)) ||| nI (2 ^ j)), .int (nI k), .ref 50]) rfl ?_
        rw [show nI (gbr m k (5 - j)) ||| nI (2 ^ j) = nI (gbr m k (5 - j) ||| 2 ^ j) from nI_or _ _]
        refine am_iastore (k) (am_at hc_M_welfareOf 53 rfl) rfl (by decide) rfl (by show k < 5; omega) (Nat.le_of_ble_eq_true rfl) ?_
        refine am_go cd_M_welfareOf hc_M_welfareOf 54 2 (pc' := 31) (L' := [some (.ref 40), some (.int (nI m)), some (.int (zI lo)), some (.int (zI (srr res m (5 - j)))), some (.int (nI (m / 6 ^ (6 - j)))), some (.int (nI j + (-1))), some (.int (nI (k + 1)))]) (st' := []) rfl ?_
        refine am_weak (L' := [some (.ref 40), some (.int (nI m)), some (.int (zI lo)), some (.int (zI (srr res m (5 - j)))), some (.int (nI (m / 6 ^ (6 - j)))), some (.int (nI j + (-1))), none]) ⟨rfl, rfl, rfl, rfl, rfl, rfl, trivial⟩ ?_
        have es : srr res m (5 - j) = srr res m (6 - j) := by rw [e6]; show _ = srr res m (5 - j) + _; rw [e5, if_neg hz]; omega
        rw [i_dec, es]
        refine ih (by omega) _ (fun a ha => by rw [am_u_ne a ha]; exact hd a ha) (fun b hb => ?_)
        rw [e6]
        show _ = nI (if dgt m (5 - (5 - j)) = b + 1 then gbr m b (5 - j) ||| 2 ^ (5 - (5 - j)) else gbr m b (5 - j))
        rw [e5, hk1]
        by_cases hbk : b = k
        · subst hbk; rw [am_u_i, if_pos rfl]
        · rw [am_u_o (fun z => hbk z.2), if_neg (by omega)]; exact hg b hb
      · have hz : dgt m j = 0 := (nI_eq (b := 0) (by omega) (by omega)).mp q2
        refine am_go cd_M_welfareOf hc_M_welfareOf 30 2 (pc' := 57) (L' := [some (.ref 40), some (.int (nI m)), some (.int (zI lo)), some (.int (zI (srr res m (5 - j)))), some (.int (nI (m / 6 ^ (6 - j)))), some (.int (nI j)), some (.int (nI (dgt m j)))]) (st' := [.ref 40, .int (zI (srr res m (5 - j)))]) rfl ?_
        refine am_getf 3 4 k_r3 (am_at hc_M_welfareOf 32 rfl) rfl (by decide) rfl (by decide) k_ok3 (Or.inl (tw 310 rfl rfl)) rfl ?_
        refine am_go cd_M_welfareOf hc_M_welfareOf 33 1 (pc' := 62) (L' := [some (.ref 40), some (.int (nI m)), some (.int (zI lo)), some (.int (zI (srr res m (5 - j)))), some (.int (nI (m / 6 ^ (6 - j)))), some (.int (nI j)), some (.int (nI (dgt m j)))]) (st' := [.int (nI j), .ref 43, .int (zI (srr res m (5 - j)))]) rfl ?_
        refine am_iaload (j) (am_at hc_M_welfareOf 34 rfl) rfl (Or.inl (by decide)) rfl (by show j < 6; omega) (Nat.le_of_ble_eq_true rfl) ?_
        rw [show d1 43 j = zI (res j) from by rw [hd 43 (by decide)]; exact (h6 j (by omega)).1]
        refine am_go cd_M_welfareOf hc_M_welfareOf 35 1 (pc' := 64) (L' := [some (.ref 40), some (.int (nI m)), some (.int (zI lo)), some (.int (zI (srr res m (5 - j)))), some (.int (nI (m / 6 ^ (6 - j)))), some (.int (nI j)), some (.int (nI (dgt m j)))]) (st' := [.int (zI (srr res m (5 - j)) + zI (res j))]) rfl ?_
        rw [show zI (srr res m (5 - j)) + zI (res j) = zI (srr res m (5 - j) + res j) from zI_add _ _]
        have es : srr res m (5 - j) + res j = srr res m (6 - j) := by rw [e6]; show _ = srr res m (5 - j) + _; rw [e5, if_pos hz]
        rw [es]
        refine am_go cd_M_welfareOf hc_M_welfareOf 36 2 (pc' := 91) (L' := [some (.ref 40), some (.int (nI m)), some (.int (zI lo)), some (.int (zI (srr res m (6 - j)))), some (.int (nI (m / 6 ^ (6 - j)))), some (.int (nI j)), some (.int (nI (dgt m j)))]) (st' := []) rfl ?_
        refine am_go cd_M_welfareOf hc_M_welfareOf 54 2 (pc' := 31) (L' := [some (.ref 40), some (.int (nI m)), some (.int (zI lo)), some (.int (zI (srr res m (6 - j)))), some (.int (nI (m / 6 ^ (6 - j)))), some (.int (nI j + (-1))), some (.int (nI (dgt m j)))]) (st' := []) rfl ?_
        refine am_weak (L' := [some (.ref 40), some (.int (nI m)), some (.int (zI lo)), some (.int (zI (srr res m (6 - j)))), some (.int (nI (m / 6 ^ (6 - j)))), some (.int (nI j + (-1))), none]) ⟨rfl, rfl, rfl, rfl, rfl, rfl, trivial⟩ ?_
        rw [i_dec]
        refine ih (by omega) d1 hd (fun b hb => ?_)
        rw [e6]
        show _ = nI (if dgt m (5 - (5 - j)) = b + 1 then gbr m b (5 - j) ||| 2 ^ (5 - (5 - j)) else gbr m b (5 - j))
        rw [e5, hz, if_neg (by omega)]; exact hg b hb
  have loop1 : ∀ q j, j + q = 5 → cW l x e L m_M_welfareOf 8 [some (.ref 40), some (.int (nI m)), some (.int (zI lo)), some (.int 0), some (.int (nI m)), some (.int (nI j)), none] [] (am_tb d 50 j (fun _ => 0)) (fun r d' => r = some (.int (zI (wof wt res lo m))) ∧ RM cash esc pd pt ow res wt T n se cl d' ∧ fM d d' ∧ ∀ b, b < 5 → d' 50 b = nI (gbr m b 6)) := by
    intro q
    induction q with
    | zero =>
      intro j hj
      refine am_go cd_M_welfareOf hc_M_welfareOf 6 2 (pc' := 11) (L' := [some (.ref 40), some (.int (nI m)), some (.int (zI lo)), some (.int 0), some (.int (nI m)), some (.int (nI j)), none]) (st' := [.int 5, .int (nI j)]) rfl ?_
      refine am_icmp_ge 28 (am_at hc_M_welfareOf 8 rfl) (by decide) (fun q1 => ?_) (fun q1 => absurd (nI_le (a := 5) (b := j) (by omega) (by omega)) q1)
      refine am_go cd_M_welfareOf hc_M_welfareOf 16 2 (pc' := 31) (L' := [some (.ref 40), some (.int (nI m)), some (.int (zI lo)), some (.int 0), some (.int (nI m)), some (.int 5), none]) (st' := []) rfl ?_
      rw [show j = 5 by omega]
      have h0 := loop2 6 (Nat.le_refl _) (am_tb d 50 5 (fun _ => 0)) (fun a ha => am_tb_ne ha) (fun b hb => am_tb_lt hb)
      rw [show 6 - 6 = 0 from rfl, Nat.pow_zero, Nat.div_one] at h0
      exact h0
    | succ q ih =>
      intro j hj
      refine am_go cd_M_welfareOf hc_M_welfareOf 6 2 (pc' := 11) (L' := [some (.ref 40), some (.int (nI m)), some (.int (zI lo)), some (.int 0), some (.int (nI m)), some (.int (nI j)), none]) (st' := [.int 5, .int (nI j)]) rfl ?_
      refine am_icmp_ge 28 (am_at hc_M_welfareOf 8 rfl) (by decide) (fun q1 => absurd q1 (nI_ge (a := j) (b := 5) (by omega) (by omega))) (fun q1 => ?_)
      refine am_go cd_M_welfareOf hc_M_welfareOf 9 1 (pc' := 15) (L' := [some (.ref 40), some (.int (nI m)), some (.int (zI lo)), some (.int 0), some (.int (nI m)), some (.int (nI j)), none]) (st' := [.ref 40]) rfl ?_
      refine am_getf 3 16 k_r3 (am_at hc_M_welfareOf 10 rfl) rfl (by decide) rfl (by decide) k_ok3 (Or.inl (tw 322 rfl rfl)) rfl ?_
      refine am_go cd_M_welfareOf hc_M_welfareOf 11 2 (pc' := 21) (L' := [some (.ref 40), some (.int (nI m)), some (.int (zI lo)), some (.int 0), some (.int (nI m)), some (.int (nI j)), none]) (st' := [.int 0, .int (nI j), .ref 50]) rfl ?_
      refine am_iastore (j) (am_at hc_M_welfareOf 13 rfl) rfl (by decide) rfl (by show j < 5; omega) (Nat.le_of_ble_eq_true rfl) ?_
      refine am_go cd_M_welfareOf hc_M_welfareOf 14 2 (pc' := 8) (L' := [some (.ref 40), some (.int (nI m)), some (.int (zI lo)), some (.int 0), some (.int (nI m)), some (.int (nI j + 1)), none]) (st' := []) rfl ?_
      rw [nI_1, am_tb_s d 50 j (fun _ => 0)]
      exact ih (j + 1) (by omega)
  have h0 := loop1 5 0 rfl
  rw [am_tb_0] at h0
  exact h0
set_option maxHeartbeats 4000000 in
theorem c_M_bestOf {l : Launch} {x : am_X} {e L : Nat} {d : am_D} {cash esc pd pt ow : Nat → Int32} {res : Nat → Int} {wt : Nat → Nat → Int} {T : Nat → Nat} {n : Nat} {se : Int32} {cl : Bool} (h : RM cash esc pd pt ow res wt T n se cl d) {lo : Int} (hl1 : -1 ≤ lo) (hl2 : lo ≤ 4) : cM l x (e + 1) L m_M_bestOf [.ref 40, .int (zI lo)] d (fun r d' => r = some (.int (nI (bo wt res lo 46656).2)) ∧ RM cash esc pd pt ow res wt T n se cl d' ∧ fM d d') := by
  obtain ⟨h1, h2, h3, h4, h5, h6, h7, h8, h9, h10⟩ := id h
  refine cM.go (by decide) (by simp [Value.category]) (Nat.le_of_ble_eq_true rfl) ?_
  have hwt : ∀ b, b < 5 → tb_ok (wt b) := fun b hb => (h7 b hb).1
  have hres : ∀ j, j < 6 → 0 ≤ res j ∧ res j ≤ 999 := fun j hj => (h6 j hj).2
  refine am_go cd_M_bestOf hc_M_bestOf 0 6 (pc' := 7) (L' := [some (.ref 40), some (.int (zI lo)), some (.int (-1)), some (.int 0), some (.int 0), none]) (st' := []) rfl ?_
  have loop : ∀ q m d1, m + q = 46656 → RM cash esc pd pt ow res wt T n se cl d1 → fM d d1 → cW l x (e + 1) L m_M_bestOf 7 [some (.ref 40), some (.int (zI lo)), some (.int (zI (bo wt res lo m).1)), some (.int (nI (bo wt res lo m).2)), some (.int (nI m)), none] [] d1 (fun r d' => r = some (.int (nI (bo wt res lo 46656).2)) ∧ RM cash esc pd pt ow res wt T n se cl d' ∧ fM d d') := by
    intro q
    induction q with
    | zero =>
      intro m d1 hm hR hf
      have hm5 : m = 46656 := by omega
      subst hm5
      refine am_go cd_M_bestOf hc_M_bestOf 6 1 (pc' := 9) (L' := [some (.ref 40), some (.int (zI lo)), some (.int (zI (bo wt res lo 46656).1)), some (.int (nI (bo wt res lo 46656).2)), some (.int (nI 46656)), none]) (st' := [.int (nI 46656)]) rfl ?_
      refine am_ldc 46656 (am_at hc_M_bestOf 7 rfl) (tw 449 rfl rfl) ?_
      refine am_icmp_ge 41 (am_at hc_M_bestOf 8 rfl) (by decide) (fun q1 => ?_) (fun q1 => absurd (nI_le (a := 46656) (b := 46656) (by omega) (by omega)) q1)
      refine am_go cd_M_bestOf hc_M_bestOf 23 1 (pc' := 42) (L' := [some (.ref 40), some (.int (zI lo)), some (.int (zI (bo wt res lo 46656).1)), some (.int (nI (bo wt res lo 46656).2)), some (.int (nI 46656)), none]) (st' := [.int (nI (bo wt res lo 46656).2)]) rfl ?_
      exact am_iret (am_at hc_M_bestOf 24 rfl) rfl rfl ⟨rfl, rfl, rfl, hR, hf⟩
    | succ q ih =>
      intro m d1 hm hR hf
      have hb1 := bo_b hwt hres lo m
      have hb2 := wof_b hwt hres lo m
      have eb : bo wt res lo (m + 1) = if (bo wt res lo m).1 < wof wt res lo m then (wof wt res lo m, m) else bo wt res lo m := rfl
      refine am_go cd_M_bestOf hc_M_bestOf 6 1 (pc' := 9) (L' := [some (.ref 40), some (.int (zI lo)), some (.int (zI (bo wt res lo m).1)), some (.int (nI (bo wt res lo m).2)), some (.int (nI m)), none]) (st' := [.int (nI m)]) rfl ?_
      refine am_ldc 46656 (am_at hc_M_bestOf 7 rfl) (tw 449 rfl rfl) ?_
      refine am_icmp_ge 41 (am_at hc_M_bestOf 8 rfl) (by decide) (fun q1 => absurd q1 (nI_ge (a := m) (b := 46656) (by omega) (by omega))) (fun q1 => ?_)
      refine am_go cd_M_bestOf hc_M_bestOf 9 3 (pc' := 18) (L' := [some (.ref 40), some (.int (zI lo)), some (.int (zI (bo wt res lo m).1)), some (.int (nI (bo wt res lo m).2)), some (.int (nI m)), none]) (st' := [.int (zI lo), .int (nI m), .ref 40]) rfl ?_
      refine cW.callV (st := []) [.int (nI m), .int (zI lo)] (am_at hc_M_bestOf 12 rfl) g_M_welfareOf (Or.inl (tw 450 rfl rfl)) (tw 452 rfl rfl) (tp 29 rfl rfl) 3 k_r3 rfl (by decide) rfl rfl rfl rfl (Nat.le_of_ble_eq_true rfl) (c_M_welfareOf hR (by omega : m < 46656) hl1 hl2) ?_
      rintro _ d2 ⟨rfl, hR2, hf2, -⟩
      show cW _ _ (e + 1) _ m_M_bestOf 21 [some (.ref 40), some (.int (zI lo)), some (.int (zI (bo wt res lo m).1)), some (.int (nI (bo wt res lo m).2)), some (.int (nI m)), none] [.int (zI (wof wt res lo m))] _ _
      refine am_go cd_M_bestOf hc_M_bestOf 13 3 (pc' := 26) (L' := [some (.ref 40), some (.int (zI lo)), some (.int (zI (bo wt res lo m).1)), some (.int (nI (bo wt res lo m).2)), some (.int (nI m)), some (.int (zI (wof wt res lo m)))]) (st' := [.int (zI (bo wt res lo m).1), .int (zI (wof wt res lo m))]) rfl ?_
      refine am_icmp_le 35 (am_at hc_M_bestOf 16 rfl) (by decide) (fun q2 => ?_) (fun q2 => ?_)
      · have hz : ¬ (bo wt res lo m).1 < wof wt res lo m := fun z => by have := (zI_le (by omega) (by omega) (by omega) (by omega)).mp q2; omega
        refine am_go cd_M_bestOf hc_M_bestOf 21 2 (pc' := 7) (L' := [some (.ref 40), some (.int (zI lo)), some (.int (zI (bo wt res lo m).1)), some (.int (nI (bo wt res lo m).2)), some (.int (nI m + 1)), some (.int (zI (wof wt res lo m)))]) (st' := []) rfl ?_
        refine am_weak (L' := [some (.ref 40), some (.int (zI lo)), some (.int (zI (bo wt res lo m).1)), some (.int (nI (bo wt res lo m).2)), some (.int (nI m + 1)), none]) ⟨rfl, rfl, rfl, rfl, rfl, trivial⟩ ?_
        rw [nI_1]
        have h0 := ih (m + 1) d2 (by omega) hR2 (hf.tr hf2)
        rw [eb, if_neg hz] at h0
        exact h0
      · have hz : (bo wt res lo m).1 < wof wt res lo m := Int.not_le.mp (fun z => q2 ((zI_le (by omega) (by omega) (by omega) (by omega)).mpr z))
        refine am_go cd_M_bestOf hc_M_bestOf 17 6 (pc' := 7) (L' := [some (.ref 40), some (.int (zI lo)), some (.int (zI (wof wt res lo m))), some (.int (nI m)), some (.int (nI m + 1)), some (.int (zI (wof wt res lo m)))]) (st' := []) rfl ?_
        refine am_weak (L' := [some (.ref 40), some (.int (zI lo)), some (.int (zI (wof wt res lo m))), some (.int (nI m)), some (.int (nI m + 1)), none]) ⟨rfl, rfl, rfl, rfl, rfl, trivial⟩ ?_
        rw [nI_1]
        have h0 := ih (m + 1) d2 (by omega) hR2 (hf.tr hf2)
        rw [eb, if_pos hz] at h0
        exact h0
  exact loop 46656 0 d rfl h fM.rf
end
section
/-! the class's greatest score is the reference's best allocation -/
def mkS (c : Nat → Bool) : Nat := (if c 0 = true then 1 else 0) + (if c 1 = true then 2 else 0) + (if c 2 = true then 4 else 0) + (if c 3 = true then 8 else 0) + (if c 4 = true then 16 else 0) + (if c 5 = true then 32 else 0)
def mk6 (c0 c1 c2 c3 c4 c5 : Bool) : Nat := (if c0 = true then 1 else 0) + (if c1 = true then 2 else 0) + (if c2 = true then 4 else 0) + (if c3 = true then 8 else 0) + (if c4 = true then 16 else 0) + (if c5 = true then 32 else 0)
theorem mkS_6 (c : Nat → Bool) : mkS c = mk6 (c 0) (c 1) (c 2) (c 3) (c 4) (c 5) := rfl
theorem mk6_lt : ∀ c0 c1 c2 c3 c4 c5 : Bool, mk6 c0 c1 c2 c3 c4 c5 < 64 := by decide +kernel
theorem mkS_lt (c : Nat → Bool) : mkS c < 64 := mk6_lt _ _ _ _ _ _
theorem mk6_bit : ∀ c0 c1 c2 c3 c4 c5 : Bool, (mk6 c0 c1 c2 c3 c4 c5).testBit 0 = c0 ∧ (mk6 c0 c1 c2 c3 c4 c5).testBit 1 = c1 ∧ (mk6 c0 c1 c2 c3 c4 c5).testBit 2 = c2 ∧ (mk6 c0 c1 c2 c3 c4 c5).testBit 3 = c3 ∧ (mk6 c0 c1 c2 c3 c4 c5).testBit 4 = c4 ∧ (mk6 c0 c1 c2 c3 c4 c5).testBit 5 = c5 := by decide +kernel
theorem mk6_or : ∀ c0 c1 c2 c3 c4 c5 : Bool, (let g5 := if c5 = true then 0 ||| 2 ^ 5 else 0; let g4 := if c4 = true then g5 ||| 2 ^ 4 else g5; let g3 := if c3 = true then g4 ||| 2 ^ 3 else g4; let g2 := if c2 = true then g3 ||| 2 ^ 2 else g3; let g1 := if c1 = true then g2 ||| 2 ^ 1 else g2; if c0 = true then g1 ||| 2 ^ 0 else g1) = mk6 c0 c1 c2 c3 c4 c5 := by decide +kernel
theorem mk_bits : ∀ s, s < 64 → mk6 (s.testBit 0) (s.testBit 1) (s.testBit 2) (s.testBit 3) (s.testBit 4) (s.testBit 5) = s := by decide +kernel
theorem gbr_mk (m b : Nat) : gbr m b 6 = mkS (fun j => decide (dgt m j = b + 1)) := by
  rw [mkS_6, ← mk6_or]
  simp only [gbr, decide_eq_true_eq]
theorem rk_mk : ∀ c0 c1 c2 c3 c4 c5 : Bool, rk (mk6 c0 c1 c2 c3 c4 c5) = (if c0 = true then 7776 else 0) + (if c1 = true then 1296 else 0) + (if c2 = true then 216 else 0) + (if c3 = true then 36 else 0) + (if c4 = true then 6 else 0) + (if c5 = true then 1 else 0) := by decide +kernel
theorem so_mk (f : Nat → Int) (c : Nat → Bool) : so f (mkS c) 6 = (if c 0 = true then f 0 else 0) + (if c 1 = true then f 1 else 0) + (if c 2 = true then f 2 else 0) + (if c 3 = true then f 3 else 0) + (if c 4 = true then f 4 else 0) + (if c 5 = true then f 5 else 0) := by
  obtain ⟨b0, b1, b2, b3, b4, b5⟩ := mk6_bit (c 0) (c 1) (c 2) (c 3) (c 4) (c 5)
  rw [← mkS_6] at b0 b1 b2 b3 b4 b5
  simp only [so, b0, b1, b2, b3, b4, b5]
  omega
def sel (m : Nat) : Nat := mkS (fun j => decide (dgt m j = 0))
theorem sel_so (res : Nat → Int) (m : Nat) : so res (sel m) 6 = srr res m 6 := by
  unfold sel
  rw [so_mk]
  simp only [srr, decide_eq_true_eq, Nat.reduceSub, Nat.sub_self, Nat.sub_zero]
  omega
theorem dig_sum {m : Nat} (hm : m < 46656) : m = dgt m 0 * 7776 + dgt m 1 * 1296 + dgt m 2 * 216 + dgt m 3 * 36 + dgt m 4 * 6 + dgt m 5 := by
  have e0 : dgt m 0 = m / 7776 % 6 := rfl
  have e1 : dgt m 1 = m / 1296 % 6 := rfl
  have e2 : dgt m 2 = m / 216 % 6 := rfl
  have e3 : dgt m 3 = m / 36 % 6 := rfl
  have e4 : dgt m 4 = m / 6 % 6 := rfl
  have e5 : dgt m 5 = m % 6 := by show m / 1 % 6 = _; rw [Nat.div_one]
  omega
theorem one_dig {o : Nat} (h : o < 6) (P : Int) : (if o = 1 then P else 0) * 1 + (if o = 2 then P else 0) * 2 + (if o = 3 then P else 0) * 3 + (if o = 4 then P else 0) * 4 + (if o = 5 then P else 0) * 5 = o * P := by
  have h6 : o = 0 ∨ o = 1 ∨ o = 2 ∨ o = 3 ∨ o = 4 ∨ o = 5 := by omega
  rcases h6 with rfl | rfl | rfl | rfl | rfl | rfl <;> simp <;> omega
theorem rk_sum {m : Nat} (hm : m < 46656) : rk (gbr m 0 6) * 1 + rk (gbr m 1 6) * 2 + rk (gbr m 2 6) * 3 + rk (gbr m 3 6) * 4 + rk (gbr m 4 6) * 5 = m := by
  have hd := dig_sum hm
  have d0 := one_dig (dgt_lt m 0) 7776
  have d1 := one_dig (dgt_lt m 1) 1296
  have d2 := one_dig (dgt_lt m 2) 216
  have d3 := one_dig (dgt_lt m 3) 36
  have d4 := one_dig (dgt_lt m 4) 6
  have d5 := one_dig (dgt_lt m 5) 1
  simp only [gbr_mk, mkS_6, rk_mk, decide_eq_true_eq, Nat.zero_add, Nat.reduceAdd]
  omega
/-- what an allocation counts -/
def sco (wt : Nat → Nat → Int) (res : Nat → Int) (m : Nat) : Int := swf wt m (srr res m 6) 5 * 46656 - m
theorem sco_eq (wt : Nat → Nat → Int) (res : Nat → Int) {m : Nat} (hm : m < 46656) : sco wt res m = so res (sel m) 6 * 46656 + own wt 0 (gbr m 0 6) + own wt 1 (gbr m 1 6) + own wt 2 (gbr m 2 6) + own wt 3 (gbr m 3 6) + own wt 4 (gbr m 4 6) := by
  have h := rk_sum hm
  rw [sel_so]
  simp only [sco, swf, own]
  omega
theorem mk6_step : ∀ a0 a1 a2 a3 a4 a5 b0 b1 b2 b3 b4 b5 : Bool, (a0 && b0) = false → (a1 && b1) = false → (a2 && b2) = false → (a3 && b3) = false → (a4 && b4) = false → (a5 && b5) = false →
    mk6 a0 a1 a2 a3 a4 a5 &&& mk6 (a0 || b0) (a1 || b1) (a2 || b2) (a3 || b3) (a4 || b4) (a5 || b5) = mk6 a0 a1 a2 a3 a4 a5 ∧ mk6 (a0 || b0) (a1 || b1) (a2 || b2) (a3 || b3) (a4 || b4) (a5 || b5) - mk6 a0 a1 a2 a3 a4 a5 = mk6 b0 b1 b2 b3 b4 b5 := by decide +kernel
def upto (m k : Nat) : Nat := mkS (fun j => decide (dgt m j ≤ k))
theorem upto_step (m k : Nat) : upto m k &&& upto m (k + 1) = upto m k ∧ upto m (k + 1) - upto m k = gbr m k 6 := by
  have e : ∀ j, decide (dgt m j ≤ k + 1) = (decide (dgt m j ≤ k) || decide (dgt m j = k + 1)) := fun j => by
    by_cases h1 : dgt m j ≤ k
    · simp [h1, show dgt m j ≤ k + 1 by omega]
    · by_cases h2 : dgt m j = k + 1
      · simp [h2]
      · simp [h1, h2, show ¬ dgt m j ≤ k + 1 by omega]
  have n : ∀ j, (decide (dgt m j ≤ k) && decide (dgt m j = k + 1)) = false := fun j => by
    by_cases h1 : dgt m j ≤ k
    · simp [show ¬ dgt m j = k + 1 by omega]
    · simp [h1]
  rw [gbr_mk]
  unfold upto
  simp only [mkS_6, e]
  exact mk6_step _ _ _ _ _ _ _ _ _ _ _ _ (n 0) (n 1) (n 2) (n 3) (n 4) (n 5)
theorem upto_lt (m k : Nat) : upto m k < 64 := mkS_lt _
theorem upto_5 (m : Nat) : upto m 5 = 63 := by
  have h : ∀ j, decide (dgt m j ≤ 5) = true := fun j => decide_eq_true (by have := dgt_lt m j; omega)
  unfold upto
  simp only [mkS_6, h]
  rfl
theorem upto_0 (m : Nat) : upto m 0 = sel m := by
  unfold upto sel
  simp only [Nat.le_zero]
theorem own_0 {wt : Nat → Nat → Int} (hwt : ∀ b, b < 5 → tb_ok (wt b)) {k : Nat} (hk : k < 5) : own wt k 0 = 0 := by
  unfold own; rw [(hwt k hk).zero, show rk 0 = 0 by decide]; omega
def alw (lo : Int) (m : Nat) : Prop := ∀ k : Nat, (k : Int) = lo → gbr m k 6 = 0
def psum (wt : Nat → Nat → Int) (m : Nat) : Nat → Int
  | 0 => 0
  | k + 1 => psum wt m k + own wt k (gbr m k 6)
theorem gs_ge {wt : Nat → Nat → Int} {res : Nat → Int} (hwt : ∀ b, b < 5 → tb_ok (wt b)) {lo : Int} {m : Nat} (ha : alw lo m) : ∀ k, k ≤ 5 → so res (sel m) 6 * 46656 + psum wt m k ≤ gs wt res lo k (upto m k)
  | 0, _ => by
    rw [upto_0]
    show _ + 0 ≤ so res (sel m) 6 * 46656
    omega
  | k + 1, h => by
    have ih := gs_ge hwt (res := res) ha k (by omega)
    obtain ⟨h1, h2⟩ := upto_step m k
    show _ + (psum wt m k + own wt k (gbr m k 6)) ≤ (if (k : Int) = lo then gs wt res lo k else jn (gs wt res lo k) (own wt k)) (upto m (k + 1))
    by_cases hlo : (k : Int) = lo
    · rw [if_pos hlo]
      have hz := ha k hlo
      rw [hz] at h2 ⊢
      rw [own_0 hwt (by omega)]
      have hle := sub_le h1
      rw [show upto m (k + 1) = upto m k by omega]
      omega
    · rw [if_neg hlo]
      have h3 := jn_ge (gs wt res lo k) (own wt k) (upto_lt m (k + 1)) h1
      rw [h2] at h3
      omega
theorem sco_le {wt : Nat → Nat → Int} {res : Nat → Int} (hwt : ∀ b, b < 5 → tb_ok (wt b)) {lo : Int} {m : Nat} (hm : m < 46656) (ha : alw lo m) : sco wt res m ≤ gs wt res lo 5 63 := by
  have h := gs_ge hwt (res := res) ha 5 (by decide)
  rw [upto_5] at h
  rw [sco_eq wt res hm]
  simp only [psum] at h
  omega
/-- items of u whose owner is k -/
def its (u : Nat) (o : Nat → Nat) (k : Nat) : Nat := mkS (fun j => u.testBit j && decide (o j = k))
def psu (wt : Nat → Nat → Int) (u : Nat) (o : Nat → Nat) : Nat → Int
  | 0 => 0
  | k + 1 => psu wt u o k + own wt k (its u o (k + 1))
theorem mkS_congr {a b : Nat → Bool} (h : ∀ j, j < 6 → a j = b j) : mkS a = mkS b := by
  rw [mkS_6, mkS_6, h 0 (by decide), h 1 (by decide), h 2 (by decide), h 3 (by decide), h 4 (by decide), h 5 (by decide)]
theorem mk6_dif : ∀ a0 a1 a2 a3 a4 a5 b0 b1 b2 b3 b4 b5 : Bool, mk6 a0 a1 a2 a3 a4 a5 &&& mk6 b0 b1 b2 b3 b4 b5 = mk6 a0 a1 a2 a3 a4 a5 →
    mk6 b0 b1 b2 b3 b4 b5 - mk6 a0 a1 a2 a3 a4 a5 = mk6 (b0 && !a0) (b1 && !a1) (b2 && !a2) (b3 && !a3) (b4 && !a4) (b5 && !a5) ∧ (a0 && !b0) = false ∧ (a1 && !b1) = false ∧ (a2 && !b2) = false ∧ (a3 && !b3) = false ∧ (a4 && !b4) = false ∧ (a5 && !b5) = false := by decide +kernel
theorem sub_bits {p u : Nat} (hu : u < 64) (h : p &&& u = p) : u - p = mkS (fun j => u.testBit j && !p.testBit j) ∧ ∀ j, j < 6 → p.testBit j = true → u.testBit j = true := by
  have hp := sub_lt hu h
  have h1 := mk_bits u hu
  have h2 := mk_bits p hp
  obtain ⟨g1, g2, g3, g4, g5, g6, g7⟩ := mk6_dif (p.testBit 0) (p.testBit 1) (p.testBit 2) (p.testBit 3) (p.testBit 4) (p.testBit 5) (u.testBit 0) (u.testBit 1) (u.testBit 2) (u.testBit 3) (u.testBit 4) (u.testBit 5) (by rw [h1, h2]; exact h)
  rw [h1, h2] at g1
  refine ⟨g1, fun j hj hpj => ?_⟩
  have hj6 : j = 0 ∨ j = 1 ∨ j = 2 ∨ j = 3 ∨ j = 4 ∨ j = 5 := by omega
  rcases hj6 with rfl | rfl | rfl | rfl | rfl | rfl <;> simp_all
theorem psu_congr {wt : Nat → Nat → Int} {u u' : Nat} {o o' : Nat → Nat} : ∀ k, (∀ b, b < k → its u o (b + 1) = its u' o' (b + 1)) → psu wt u o k = psu wt u' o' k
  | 0, _ => rfl
  | k + 1, h => by
    show psu wt u o k + _ = psu wt u' o' k + _
    rw [psu_congr k (fun b hb => h b (by omega)), h k (by omega)]
theorem gs_is {wt : Nat → Nat → Int} {res : Nat → Int} (hwt : ∀ b, b < 5 → tb_ok (wt b)) (lo : Int) : ∀ k, k ≤ 5 → ∀ u, u < 64 → ∃ o : Nat → Nat, (∀ j, o j ≤ k) ∧ (∀ b : Nat, (b : Int) = lo → its u o (b + 1) = 0) ∧ gs wt res lo k u = so res (its u o 0) 6 * 46656 + psu wt u o k
  | 0, _, u, hu => by
    refine ⟨fun _ => 0, fun _ => Nat.le_refl _, fun b _ => ?_, ?_⟩
    · have : its u (fun _ => 0) (b + 1) = mkS (fun _ => false) := mkS_congr (fun j _ => by simp)
      rw [this]; rfl
    · have : its u (fun _ => 0) 0 = u := by
        have h1 : its u (fun _ => 0) 0 = mkS (fun j => u.testBit j) := mkS_congr (fun j _ => by simp)
        rw [h1, mkS_6]; exact mk_bits u hu
      rw [this]
      show so res u 6 * 46656 = _ + 0
      omega
  | k + 1, hk, u, hu => by
    show ∃ o : Nat → Nat, (∀ j, o j ≤ k + 1) ∧ (∀ b : Nat, (b : Int) = lo → its u o (b + 1) = 0) ∧ (if (k : Int) = lo then gs wt res lo k else jn (gs wt res lo k) (own wt k)) u = so res (its u o 0) 6 * 46656 + (psu wt u o k + own wt k (its u o (k + 1)))
    by_cases hlo : (k : Int) = lo
    · rw [if_pos hlo]
      obtain ⟨o, h1, h2, h3⟩ := gs_is hwt (res := res) lo k (by omega) u hu
      refine ⟨o, fun j => by have := h1 j; omega, h2, ?_⟩
      rw [h2 k hlo, own_0 hwt (by omega), h3]; omega
    · rw [if_neg hlo]
      obtain ⟨p, hp, e⟩ := jn_is (gs wt res lo k) (own wt k) hu
      obtain ⟨o, h1, h2, h3⟩ := gs_is hwt (res := res) lo k (by omega) p (sub_lt hu hp)
      obtain ⟨s1, s2⟩ := sub_bits hu hp
      obtain ⟨o', ho1, ho2⟩ : ∃ o' : Nat → Nat, (∀ j, p.testBit j = true → o' j = o j) ∧ (∀ j, p.testBit j = false → o' j = k + 1) := ⟨fun j => if p.testBit j = true then o j else k + 1, fun j hj => if_pos hj, fun j hj => if_neg (by rw [hj]; decide)⟩
      have key : ∀ c, c ≤ k → its u o' c = its p o c := fun c hc => mkS_congr (fun j hj => by
        cases hpj : p.testBit j with
        | true => rw [s2 j hj hpj, ho1 j hpj]
        | false => rw [ho2 j hpj, decide_eq_false (show ¬ k + 1 = c by omega), Bool.and_false, Bool.false_and])
      have last : its u o' (k + 1) = u - p := by
        rw [s1]
        exact mkS_congr (fun j hj => by
          have := h1 j
          cases hpj : p.testBit j with
          | true => rw [ho1 j hpj, decide_eq_false (show ¬ o j = k + 1 by omega)]; rfl
          | false => rw [ho2 j hpj, decide_eq_true rfl]; rfl)
      refine ⟨o', fun j => ?_, fun b hb => ?_, ?_⟩
      · have := h1 j
        cases hpj : p.testBit j with
        | true => rw [ho1 j hpj]; omega
        | false => rw [ho2 j hpj]; exact Nat.le_refl _
      · by_cases hbk : b + 1 ≤ k
        · rw [key (b + 1) hbk]; exact h2 b hb
        · have hne : ¬ b = k := fun z => hlo (by rw [← z]; exact hb)
          have : its u o' (b + 1) = mkS (fun _ => false) := mkS_congr (fun j hj => by
            have := h1 j
            cases hpj : p.testBit j with
            | true => rw [ho1 j hpj, decide_eq_false (show ¬ o j = b + 1 by omega), Bool.and_false]
            | false => rw [ho2 j hpj, decide_eq_false (show ¬ k + 1 = b + 1 by omega), Bool.and_false])
          rw [this]; rfl
      · rw [e, h3, key 0 (by omega), last, psu_congr k (fun b hb => key (b + 1) (by omega))]; omega
theorem dgt_of {o : Nat → Nat} (h : ∀ j, o j ≤ 5) {j : Nat} (hj : j < 6) : dgt (o 0 * 7776 + o 1 * 1296 + o 2 * 216 + o 3 * 36 + o 4 * 6 + o 5) j = o j := by
  have h0 := h 0; have h1 := h 1; have h2 := h 2; have h3 := h 3; have h4 := h 4; have h5 := h 5
  have e0 : ∀ m, dgt m 0 = m / 7776 % 6 := fun _ => rfl
  have e1 : ∀ m, dgt m 1 = m / 1296 % 6 := fun _ => rfl
  have e2 : ∀ m, dgt m 2 = m / 216 % 6 := fun _ => rfl
  have e3 : ∀ m, dgt m 3 = m / 36 % 6 := fun _ => rfl
  have e4 : ∀ m, dgt m 4 = m / 6 % 6 := fun _ => rfl
  have e5 : ∀ m, dgt m 5 = m % 6 := fun m => by show m / 1 % 6 = _; rw [Nat.div_one]
  have hj6 : j = 0 ∨ j = 1 ∨ j = 2 ∨ j = 3 ∨ j = 4 ∨ j = 5 := by omega
  rcases hj6 with rfl | rfl | rfl | rfl | rfl | rfl
  · rw [e0]; omega
  · rw [e1]; omega
  · rw [e2]; omega
  · rw [e3]; omega
  · rw [e4]; omega
  · rw [e5]; omega
theorem sco_is {wt : Nat → Nat → Int} (res : Nat → Int) (hwt : ∀ b, b < 5 → tb_ok (wt b)) (lo : Int) : ∃ m, m < 46656 ∧ alw lo m ∧ gs wt res lo 5 63 = sco wt res m := by
  obtain ⟨o, h1, h2, h3⟩ := gs_is hwt (res := res) lo 5 (by decide) 63 (by decide)
  have h0 := h1 0; have g1 := h1 1; have g2 := h1 2; have g3 := h1 3; have g4 := h1 4; have g5 := h1 5
  have hm : o 0 * 7776 + o 1 * 1296 + o 2 * 216 + o 3 * 36 + o 4 * 6 + o 5 < 46656 := by omega
  have hb63 : ∀ j, j < 6 → (63 : Nat).testBit j = true := by decide
  have hits : ∀ c, its 63 o c = mkS (fun j => decide (dgt (o 0 * 7776 + o 1 * 1296 + o 2 * 216 + o 3 * 36 + o 4 * 6 + o 5) j = c)) := fun c => mkS_congr (fun j hj => by rw [dgt_of h1 hj, hb63 j hj, Bool.true_and])
  have hg : ∀ b, its 63 o (b + 1) = gbr (o 0 * 7776 + o 1 * 1296 + o 2 * 216 + o 3 * 36 + o 4 * 6 + o 5) b 6 := fun b => by rw [hits, gbr_mk]
  refine ⟨_, hm, fun k hk => by rw [← hg]; exact h2 k hk, ?_⟩
  rw [sco_eq wt res hm, h3]
  have hs : its 63 o 0 = sel (o 0 * 7776 + o 1 * 1296 + o 2 * 216 + o 3 * 36 + o 4 * 6 + o 5) := hits 0
  rw [hs]
  simp only [psu, hg]
  omega
theorem bo_lt {wt : Nat → Nat → Int} {res : Nat → Int} {lo w : Int} (hw : -1 < w) : ∀ k, (∀ m, m < k → wof wt res lo m < w) → (bo wt res lo k).1 < w
  | 0, _ => hw
  | k + 1, h => by
    have ih := bo_lt hw k (fun m hm => h m (by omega))
    unfold bo
    split
    · exact h k (by omega)
    · exact ih
theorem bo_at {wt : Nat → Nat → Int} {res : Nat → Int} {lo : Int} {m0 : Nat} (hw : -1 < wof wt res lo m0) (h1 : ∀ m, m < m0 → wof wt res lo m < wof wt res lo m0) : ∀ k, m0 < k → (∀ m, m < k → wof wt res lo m ≤ wof wt res lo m0) → bo wt res lo k = (wof wt res lo m0, m0)
  | 0, h, _ => by omega
  | k + 1, h, h2 => by
    unfold bo
    by_cases hk : k = m0
    · subst hk
      rw [if_pos (bo_lt hw k h1)]
    · rw [bo_at hw h1 k (by omega) (fun m hm => h2 m (by omega)), if_neg]
      have := h2 k (by omega)
      show ¬ wof wt res lo m0 < wof wt res lo k
      omega
theorem wof_alw {wt : Nat → Nat → Int} {res : Nat → Int} {lo : Int} {m : Nat} (ha : alw lo m) : wof wt res lo m = swf wt m (srr res m 6) 5 := by
  unfold wof
  rw [if_neg]
  rintro ⟨h1, h2⟩
  exact h2 (ha lo.toNat (Int.toNat_of_nonneg h1))
theorem wof_no {wt : Nat → Nat → Int} {res : Nat → Int} {lo : Int} {m : Nat} (ha : ¬ alw lo m) : wof wt res lo m = -1 := by
  unfold wof
  rw [if_pos]
  by_cases h1 : 0 ≤ lo
  · refine ⟨h1, fun z => ha (fun k hk => ?_)⟩
    have : k = lo.toNat := by omega
    rw [this]; exact z
  · exact absurd (fun k hk => by omega) ha
/-- the reference's search finds the class's greatest score -/
theorem best_eq {wt : Nat → Nat → Int} {res : Nat → Int} (hwt : ∀ b, b < 5 → tb_ok (wt b)) (hres : ∀ j, j < 6 → 0 ≤ res j ∧ res j ≤ 999) (lo : Int) :
    wof wt res lo (bo wt res lo 46656).2 = wf wt res lo ∧ ((bo wt res lo 46656).2 : Int) = wf wt res lo * 46656 - gs wt res lo 5 63 ∧ (bo wt res lo 46656).2 < 46656 := by
  obtain ⟨m0, hm0, ha0, he⟩ := sco_is res hwt lo
  have hb0 := srr_b hres m0 6 (by decide)
  have hs0 := swf_b hwt m0 (s0 := srr res m0 6) (by omega) 5 (by decide)
  have hw0 := wof_alw (wt := wt) (res := res) ha0
  have hle : ∀ m, m < 46656 → alw lo m → swf wt m (srr res m 6) 5 * 46656 - m ≤ swf wt m0 (srr res m0 6) 5 * 46656 - m0 := fun m hm ha => by
    have := sco_le (res := res) hwt hm ha
    rw [he] at this
    exact this
  have hbo : bo wt res lo 46656 = (wof wt res lo m0, m0) := by
    refine bo_at (by rw [hw0]; omega) (fun m hm => ?_) 46656 hm0 (fun m hm => ?_)
    · by_cases ha : alw lo m
      · have := hle m (by omega) ha
        rw [wof_alw ha, hw0]; omega
      · rw [wof_no ha, hw0]; omega
    · by_cases ha : alw lo m
      · have := hle m hm ha
        rw [wof_alw ha, hw0]; omega
      · rw [wof_no ha, hw0]; omega
  rw [hbo]
  show wof wt res lo m0 = wf wt res lo ∧ ((m0 : Nat) : Int) = _ ∧ m0 < 46656
  unfold sco at he
  have hwf : wf wt res lo = swf wt m0 (srr res m0 6) 5 := by unfold wf; rw [he]; omega
  rw [hw0, hwf, he]
  omega
theorem best_bst {wt : Nat → Nat → Int} {res : Nat → Int} (hwt : ∀ b, b < 5 → tb_ok (wt b)) (hres : ∀ j, j < 6 → 0 ≤ res j ∧ res j ≤ 999) : (bo wt res (-1) 46656).2 = bst wt res := by
  have h := (best_eq hwt hres (-1)).2.1
  unfold bst
  omega
theorem sto6 (ow : Nat → Int32) (v : Int32) : sto ow v 6 = mkS (fun j => decide (ow j = v)) := by
  rw [mkS_6]
  have e : ∀ c0 c1 c2 c3 c4 c5 : Bool, (let g0 := if c0 = true then 0 ||| 2 ^ 0 else 0; let g1 := if c1 = true then g0 ||| 2 ^ 1 else g0; let g2 := if c2 = true then g1 ||| 2 ^ 2 else g1; let g3 := if c3 = true then g2 ||| 2 ^ 3 else g2; let g4 := if c4 = true then g3 ||| 2 ^ 4 else g3; if c5 = true then g4 ||| 2 ^ 5 else g4) = mk6 c0 c1 c2 c3 c4 c5 := by decide +kernel
  rw [← e]
  simp only [sto, decide_eq_true_eq]
theorem sto_bow (wt : Nat → Nat → Int) (res : Nat → Int) {b : Nat} (hb : b < 5) : sto (bow wt res) (nI b) 6 = gbr (bst wt res) b 6 := by
  rw [sto6, gbr_mk]
  refine mkS_congr (fun j hj => ?_)
  have hd := dgt_lt (bst wt res) j
  have e : bow wt res j = zI (((dgt (bst wt res) j : Nat) : Int) - 1) := rfl
  rw [e, nI_zI]
  have h9 := zI_eq (a := ((dgt (bst wt res) j : Nat) : Int) - 1) (b := (b : Int)) (by omega) (by omega) (by omega) (by omega)
  by_cases h : dgt (bst wt res) j = b + 1
  · rw [decide_eq_true h, decide_eq_true (h9.mpr (by omega))]
  · rw [decide_eq_false h, decide_eq_false (fun z => h (by have := h9.mp z; omega))]
end
section
set_option maxHeartbeats 4000000 in
theorem c_M_welfare {l : Launch} {x : am_X} {e L : Nat} {d : am_D} {cash esc pd pt ow : Nat → Int32} {res : Nat → Int} {wt : Nat → Nat → Int} {T : Nat → Nat} {n : Nat} {se : Int32} {cl : Bool} (h : RM cash esc pd pt ow res wt T n se cl d) (v : Int32) : cM l x (e + 2) L m_M_welfare [.ref 40, .int v] d (fun r d' => r = some (.int (if v = -1 ∨ isB v then zI (wf wt res v.toInt) else -2)) ∧ RM cash esc pd pt ow res wt T n se cl d' ∧ fM d d') := by
  obtain ⟨h1, h2, h3, h4, h5, h6, h7, h8, h9, h10⟩ := id h
  have hwt : ∀ b, b < 5 → tb_ok (wt b) := fun b hb => (h7 b hb).1
  have hres : ∀ j, j < 6 → 0 ≤ res j ∧ res j ≤ 999 := fun j hj => (h6 j hj).2
  refine cM.go (by decide) (by simp [Value.category]) (Nat.le_of_ble_eq_true rfl) ?_
  have main : -1 ≤ v.toInt → v.toInt ≤ 4 → cW l x (e + 2) L m_M_welfare 15 [some (.ref 40), some (.int v), none] [] d (fun r d' => r = some (.int (zI (wf wt res v.toInt))) ∧ RM cash esc pd pt ow res wt T n se cl d' ∧ fM d d') := by
    intro g1 g2
    generalize hz : v.toInt = z at g1 g2 ⊢
    have hv : v = zI z := by rw [← hz]; exact zI_of v
    subst hv
    have hbe := best_eq hwt hres z
    refine am_go cd_M_welfare hc_M_welfare 8 2 (pc' := 17) (L' := [some (.ref 40), some (.int (zI z)), none]) (st' := [.int (zI z), .ref 40]) rfl ?_
    refine cW.callV (st := []) [.int (zI z)] (am_at hc_M_welfare 10 rfl) g_M_bestOf (Or.inl (tw 445 rfl rfl)) (tw 447 rfl rfl) (tp 28 rfl rfl) 3 k_r3 rfl (by decide) rfl rfl rfl rfl (Nat.le_of_ble_eq_true rfl) (c_M_bestOf h g1 g2) ?_
    rintro _ d1 ⟨rfl, hR, hf⟩
    show cW _ _ (e + 2) _ m_M_welfare 20 [some (.ref 40), some (.int (zI z)), none] [.int (nI (bo wt res z 46656).2)] _ _
    refine am_go cd_M_welfare hc_M_welfare 11 4 (pc' := 24) (L' := [some (.ref 40), some (.int (zI z)), some (.int (nI (bo wt res z 46656).2))]) (st' := [.int (zI z), .int (nI (bo wt res z 46656).2), .ref 40]) rfl ?_
    refine cW.callV (st := []) [.int (nI (bo wt res z 46656).2), .int (zI z)] (am_at hc_M_welfare 15 rfl) g_M_welfareOf (Or.inl (tw 450 rfl rfl)) (tw 452 rfl rfl) (tp 29 rfl rfl) 3 k_r3 rfl (by decide) rfl rfl rfl rfl (Nat.le_of_ble_eq_true rfl) (c_M_welfareOf hR hbe.2.2 g1 g2) ?_
    rintro _ d2 ⟨rfl, hR2, hf2, -⟩
    show cW _ _ (e + 2) _ m_M_welfare 27 [some (.ref 40), some (.int (zI z)), some (.int (nI (bo wt res z 46656).2))] [.int (zI (wof wt res z (bo wt res z 46656).2))] _ _
    exact am_iret (am_at hc_M_welfare 16 rfl) rfl rfl ⟨rfl, rfl, by rw [hbe.1], hR2, hf.tr hf2⟩
  refine am_go cd_M_welfare hc_M_welfare 0 2 (pc' := 2) (L' := [some (.ref 40), some (.int v), none]) (st' := [.int (-1), .int v]) rfl ?_
  refine am_icmp_eq 15 (am_at hc_M_welfare 2 rfl) (by decide) (fun q1 => ?_) (fun q1 => ?_)
  · have hok : v = -1 ∨ isB v := Or.inl q1
    simp only [if_pos hok]
    have e1 : v.toInt = -1 := by rw [q1]; rfl
    exact main (by omega) (by omega)
  · skip
    refine am_go cd_M_welfare hc_M_welfare 3 1 (pc' := 6) (L' := [some (.ref 40), some (.int v), none]) (st' := [.int v]) rfl ?_
    refine cW.callS1 9 [.int (if isB v then 1 else 0)] (st := []) [.int v] (am_at hc_M_welfare 4 rfl) g_M_bidder (Or.inl (tw 368 rfl rfl)) (tw 369 rfl rfl) rfl rfl (Nat.le_of_ble_eq_true rfl) (c_mB v) rfl rfl ?_
    by_cases hb : isB v
    · simp only [if_pos hb]
      have hok : v = -1 ∨ isB v := Or.inr hb
      simp only [if_pos hok]
      refine am_if_ne 15 (am_at hc_M_welfare 5 rfl) (by decide) (fun q2 => ?_) (fun q2 => absurd q2 (by decide))
      have e1 : 0 ≤ v.toInt := by have := Int32.le_iff_toInt_le.mp hb.1; simpa using this
      have e2 : v.toInt < 5 := by have := Int32.lt_iff_toInt_lt.mp hb.2; exact this
      exact main (by omega) (by omega)
    · simp only [if_neg hb]
      have hno : ¬ (v = -1 ∨ isB v) := fun z => z.elim q1 hb
      simp only [if_neg hno]
      refine am_if_ne 15 (am_at hc_M_welfare 5 rfl) (by decide) (fun q2 => absurd rfl q2) (fun q2 => ?_)
      refine am_go cd_M_welfare hc_M_welfare 6 1 (pc' := 14) (L' := [some (.ref 40), some (.int v), none]) (st' := [.int (-2)]) rfl ?_
      exact am_iret (am_at hc_M_welfare 7 rfl) rfl rfl ⟨rfl, rfl, rfl, h, fM.rf⟩
set_option maxHeartbeats 4000000 in
theorem c_M_close {l : Launch} {x : am_X} {e L : Nat} {d : am_D} {cash esc pd pt ow : Nat → Int32} {res : Nat → Int} {wt : Nat → Nat → Int} {T : Nat → Nat} {n : Nat} {se : Int32} {cl : Bool} (h : RM cash esc pd pt ow res wt T n se cl d) : cM l x (e + 3) L m_M_close [.ref 40] d (fun r d' => r = some (.int (if cl = false then zI (wf wt res (-1)) else -2)) ∧ RM (if cl = false then fun b => if b < 5 then cash b + (esc b - bpay wt res b) else cash b else cash) (if cl = false then fun b => if b < 5 then 0 else esc b else esc) (if cl = false then fun b => if b < 5 then bpay wt res b else pd b else pd) pt (if cl = false then bow wt res else ow) res wt T n (if cl = false then pays (bpay wt res) se 5 else se) true d' ∧ fM d d') := by
  obtain ⟨h1, h2, h3, h4, h5, h6, h7, h8, h9, h10⟩ := id h
  have hwt : ∀ b, b < 5 → tb_ok (wt b) := fun b hb => (h7 b hb).1
  have hres : ∀ j, j < 6 → 0 ≤ res j ∧ res j ≤ 999 := fun j hj => (h6 j hj).2
  refine cM.go (by decide) (by simp [Value.category]) (Nat.le_of_ble_eq_true rfl) ?_
  refine am_go cd_M_close hc_M_close 0 1 (pc' := 1) (L' := [some (.ref 40), none, none, none, none]) (st' := [.ref 40]) rfl ?_
  refine am_getf 3 0 k_r3 (am_at hc_M_close 1 rfl) rfl (by decide) rfl (by decide) k_ok3 (Or.inl (tw 306 rfl rfl)) (congrArg Value.int h10) ?_
  cases cl with
  | true =>
    simp only [bI_t]
    simp only [Bool.true_eq_false, if_false]
    refine am_if_eq 10 (am_at hc_M_close 2 rfl) (by decide) (fun q0 => absurd q0 (by decide)) (fun q0 => ?_)
    refine am_go cd_M_close hc_M_close 3 1 (pc' := 9) (L' := [some (.ref 40), none, none, none, none]) (st' := [.int (-2)]) rfl ?_
    exact am_iret (am_at hc_M_close 4 rfl) rfl rfl ⟨rfl, rfl, rfl, h, fM.rf⟩
  | false =>
    simp only [bI_f]
    simp only [if_true]
    refine am_if_eq 10 (am_at hc_M_close 2 rfl) (by decide) (fun q0 => ?_) (fun q0 => absurd rfl q0)
    refine am_go cd_M_close hc_M_close 5 2 (pc' := 12) (L' := [some (.ref 40), none, none, none, none]) (st' := [.int 1, .ref 40]) rfl ?_
    refine am_putI 3 0 k_r3 (am_at hc_M_close 7 rfl) rfl (by decide) rfl (by decide) k_ok3 (tw 306 rfl rfl) rfl rfl rfl rfl ?_
    have hR0 : RM cash esc pd pt ow res wt T n se true (am_u d 40 0 1) := h.cl (c := true)
    have hf0 : fM d (am_u d 40 0 1) := fM.u (by decide)
    generalize am_u d 40 0 1 = d0 at hR0 hf0 ⊢
    have hbe := best_eq hwt hres (-1)
    have hbs := best_bst hwt hres
    rw [hbs] at hbe
    refine am_go cd_M_close hc_M_close 8 2 (pc' := 17) (L' := [some (.ref 40), none, none, none, none]) (st' := [.int (-1), .ref 40]) rfl ?_
    refine cW.callV (st := []) [.int (-1)] (am_at hc_M_close 10 rfl) g_M_bestOf (Or.inl (tw 445 rfl rfl)) (tw 447 rfl rfl) (tp 28 rfl rfl) 3 k_r3 rfl (by decide) rfl rfl rfl rfl (Nat.le_of_ble_eq_true rfl) (c_M_bestOf hR0 (lo := -1) (by decide) (by decide)) ?_
    rintro _ d1 ⟨rfl, hR1, hf1⟩
    rw [hbs]
    show cW _ _ (e + 3) _ m_M_close 20 [some (.ref 40), none, none, none, none] [.int (nI (bst wt res))] _ _
    refine am_go cd_M_close hc_M_close 11 4 (pc' := 24) (L' := [some (.ref 40), some (.int (nI (bst wt res))), none, none, none]) (st' := [.int (-1), .int (nI (bst wt res)), .ref 40]) rfl ?_
    refine cW.callV (st := []) [.int (nI (bst wt res)), .int (-1)] (am_at hc_M_close 15 rfl) g_M_welfareOf (Or.inl (tw 450 rfl rfl)) (tw 452 rfl rfl) (tp 29 rfl rfl) 3 k_r3 rfl (by decide) rfl rfl rfl rfl (Nat.le_of_ble_eq_true rfl) (c_M_welfareOf hR1 hbe.2.2 (lo := -1) (by decide) (by decide)) ?_
    rintro _ d2 ⟨rfl, hR2, hf2, -⟩
    rw [hbe.1]
    show cW _ _ (e + 3) _ m_M_close 27 [some (.ref 40), some (.int (nI (bst wt res))), none, none, none] [.int (zI (wf wt res (-1)))] _ _
    refine am_go cd_M_close hc_M_close 16 3 (pc' := 30) (L' := [some (.ref 40), some (.int (nI (bst wt res))), some (.int (zI (wf wt res (-1)))), some (.int 0), none]) (st' := []) rfl ?_
    have loop3 : ∀ q k d3, k + q = 5 → RM (fun b => if b < k then cash b + (esc b - bpay wt res b) else cash b) (fun b => if b < k then 0 else esc b) (fun b => if b < 5 then bpay wt res b else pd b) pt (bow wt res) res wt T n (pays (bpay wt res) se k) true d3 → fM d d3 → cW l x (e + 3) L m_M_close 119 [some (.ref 40), some (.int (nI (bst wt res))), some (.int (zI (wf wt res (-1)))), none, some (.int (nI k))] [] d3 (fun r d' => r = some (.int (zI (wf wt res (-1)))) ∧ RM (fun b => if b < 5 then cash b + (esc b - bpay wt res b) else cash b) (fun b => if b < 5 then 0 else esc b) (fun b => if b < 5 then bpay wt res b else pd b) pt (bow wt res) res wt T n (pays (bpay wt res) se 5) true d' ∧ fM d d') := by
      intro q
      induction q with
      | zero =>
        intro k d3 hk hA3 hf3
        have hk5 : k = 5 := by omega
        subst hk5
        refine am_go cd_M_close hc_M_close 75 2 (pc' := 122) (L' := [some (.ref 40), some (.int (nI (bst wt res))), some (.int (zI (wf wt res (-1)))), none, some (.int (nI 5))]) (st' := [.int 5, .int (nI 5)]) rfl ?_
        refine am_icmp_ge 180 (am_at hc_M_close 77 rfl) (by decide) (fun q1 => ?_) (fun q1 => absurd (nI_le (a := 5) (b := 5) (by omega) (by omega)) q1)
        refine am_go cd_M_close hc_M_close 110 1 (pc' := 181) (L' := [some (.ref 40), some (.int (nI (bst wt res))), some (.int (zI (wf wt res (-1)))), none, some (.int (nI 5))]) (st' := [.int (zI (wf wt res (-1)))]) rfl ?_
        exact am_iret (am_at hc_M_close 111 rfl) rfl rfl ⟨rfl, rfl, rfl, hA3, hf3⟩
      | succ q ih =>
        intro k d3 hk hA3 hf3
        refine am_go cd_M_close hc_M_close 75 2 (pc' := 122) (L' := [some (.ref 40), some (.int (nI (bst wt res))), some (.int (zI (wf wt res (-1)))), none, some (.int (nI k))]) (st' := [.int 5, .int (nI k)]) rfl ?_
        refine am_icmp_ge 180 (am_at hc_M_close 77 rfl) (by decide) (fun q1 => absurd q1 (nI_ge (a := k) (b := 5) (by omega) (by omega))) (fun q1 => ?_)
        have hp5 : d3 52 k = bpay wt res k := (hA3.2.2.1 k (by omega)).trans (if_pos (by omega))
        have hc5 : d3 41 k = cash k := (hA3.1 k (by omega)).trans (if_neg (by omega))
        have he5 : d3 42 k = esc k := (hA3.2.1 k (by omega)).trans (if_neg (by omega))
        refine am_go cd_M_close hc_M_close 78 2 (pc' := 127) (L' := [some (.ref 40), some (.int (nI (bst wt res))), some (.int (zI (wf wt res (-1)))), none, some (.int (nI k))]) (st' := [.ref 40, .ref 40]) rfl ?_
        refine am_getf 3 3 k_r3 (am_at hc_M_close 80 rfl) rfl (by decide) rfl (by decide) k_ok3 (Or.inl (tw 309 rfl rfl)) (congrArg Value.int hA3.2.2.2.2.2.2.2.2.1) ?_
        refine am_go cd_M_close hc_M_close 81 1 (pc' := 131) (L' := [some (.ref 40), some (.int (nI (bst wt res))), some (.int (zI (wf wt res (-1)))), none, some (.int (nI k))]) (st' := [.ref 40, .int (pays (bpay wt res) se k), .ref 40]) rfl ?_
        refine am_getf 3 18 k_r3 (am_at hc_M_close 82 rfl) rfl (by decide) rfl (by decide) k_ok3 (Or.inl (tw 324 rfl rfl)) rfl ?_
        refine am_go cd_M_close hc_M_close 83 1 (pc' := 136) (L' := [some (.ref 40), some (.int (nI (bst wt res))), some (.int (zI (wf wt res (-1)))), none, some (.int (nI k))]) (st' := [.int (nI k), .ref 52, .int (pays (bpay wt res) se k), .ref 40]) rfl ?_
        refine am_iaload (k) (am_at hc_M_close 84 rfl) rfl (Or.inl (by decide)) rfl (by show k < 5; omega) (Nat.le_of_ble_eq_true rfl) ?_
        rw [show d3 52 k = bpay wt res k from hp5]
        refine am_go cd_M_close hc_M_close 85 1 (pc' := 138) (L' := [some (.ref 40), some (.int (nI (bst wt res))), some (.int (zI (wf wt res (-1)))), none, some (.int (nI k))]) (st' := [.int (pays (bpay wt res) se k + bpay wt res k), .ref 40]) rfl ?_
        refine am_putI 3 3 k_r3 (am_at hc_M_close 86 rfl) rfl (by decide) rfl (by decide) k_ok3 (tw 309 rfl rfl) rfl rfl rfl rfl ?_
        have hA4 := hA3.se (v := pays (bpay wt res) se k + bpay wt res k)
        generalize hd4 : am_u d3 40 3 (pays (bpay wt res) se k + bpay wt res k) = d4 at hA4 ⊢
        have hf4 : fM d d4 := by rw [← hd4]; exact hf3.tr (fM.u (by decide))
        have k52 : d4 52 = d3 52 := by rw [← hd4]; exact am_u_ne 52 (by decide)
        have k41 : d4 41 = d3 41 := by rw [← hd4]; exact am_u_ne 41 (by decide)
        have k42 : d4 42 = d3 42 := by rw [← hd4]; exact am_u_ne 42 (by decide)
        refine am_go cd_M_close hc_M_close 87 1 (pc' := 142) (L' := [some (.ref 40), some (.int (nI (bst wt res))), some (.int (zI (wf wt res (-1)))), none, some (.int (nI k))]) (st' := [.ref 40]) rfl ?_
        refine am_getf 3 1 k_r3 (am_at hc_M_close 88 rfl) rfl (by decide) rfl (by decide) k_ok3 (Or.inl (tw 307 rfl rfl)) rfl ?_
        refine am_go cd_M_close hc_M_close 89 2 (pc' := 148) (L' := [some (.ref 40), some (.int (nI (bst wt res))), some (.int (zI (wf wt res (-1)))), none, some (.int (nI k))]) (st' := [.int (nI k), .ref 41, .int (nI k), .ref 41]) rfl ?_
        refine am_iaload (k) (am_at hc_M_close 91 rfl) rfl (Or.inl (by decide)) rfl (by show k < 5; omega) (Nat.le_of_ble_eq_true rfl) ?_
        rw [show d4 41 k = cash k from by rw [k41]; exact hc5]
        refine am_go cd_M_close hc_M_close 92 1 (pc' := 150) (L' := [some (.ref 40), some (.int (nI (bst wt res))), some (.int (zI (wf wt res (-1)))), none, some (.int (nI k))]) (st' := [.ref 40, .int (cash k), .int (nI k), .ref 41]) rfl ?_
        refine am_getf 3 2 k_r3 (am_at hc_M_close 93 rfl) rfl (by decide) rfl (by decide) k_ok3 (Or.inl (tw 308 rfl rfl)) rfl ?_
        refine am_go cd_M_close hc_M_close 94 1 (pc' := 155) (L' := [some (.ref 40), some (.int (nI (bst wt res))), some (.int (zI (wf wt res (-1)))), none, some (.int (nI k))]) (st' := [.int (nI k), .ref 42, .int (cash k), .int (nI k), .ref 41]) rfl ?_
        refine am_iaload (k) (am_at hc_M_close 95 rfl) rfl (Or.inl (by decide)) rfl (by show k < 5; omega) (Nat.le_of_ble_eq_true rfl) ?_
        rw [show d4 42 k = esc k from by rw [k42]; exact he5]
        refine am_go cd_M_close hc_M_close 96 1 (pc' := 157) (L' := [some (.ref 40), some (.int (nI (bst wt res))), some (.int (zI (wf wt res (-1)))), none, some (.int (nI k))]) (st' := [.ref 40, .int (esc k), .int (cash k), .int (nI k), .ref 41]) rfl ?_
        refine am_getf 3 18 k_r3 (am_at hc_M_close 97 rfl) rfl (by decide) rfl (by decide) k_ok3 (Or.inl (tw 324 rfl rfl)) rfl ?_
        refine am_go cd_M_close hc_M_close 98 1 (pc' := 162) (L' := [some (.ref 40), some (.int (nI (bst wt res))), some (.int (zI (wf wt res (-1)))), none, some (.int (nI k))]) (st' := [.int (nI k), .ref 52, .int (esc k), .int (cash k), .int (nI k), .ref 41]) rfl ?_
        refine am_iaload (k) (am_at hc_M_close 99 rfl) rfl (Or.inl (by decide)) rfl (by show k < 5; omega) (Nat.le_of_ble_eq_true rfl) ?_
        rw [show d4 52 k = bpay wt res k from by rw [k52]; exact hp5]
        refine am_go cd_M_close hc_M_close 100 2 (pc' := 165) (L' := [some (.ref 40), some (.int (nI (bst wt res))), some (.int (zI (wf wt res (-1)))), none, some (.int (nI k))]) (st' := [.int (cash k + (esc k - bpay wt res k)), .int (nI k), .ref 41]) rfl ?_
        refine am_iastore (k) (am_at hc_M_close 102 rfl) rfl (by decide) rfl (by show k < 5; omega) (Nat.le_of_ble_eq_true rfl) ?_
        have hA5 := hA4.cash (k := k) (v := cash k + (esc k - bpay wt res k))
        refine am_go cd_M_close hc_M_close 103 1 (pc' := 167) (L' := [some (.ref 40), some (.int (nI (bst wt res))), some (.int (zI (wf wt res (-1)))), none, some (.int (nI k))]) (st' := [.ref 40]) rfl ?_
        refine am_getf 3 2 k_r3 (am_at hc_M_close 104 rfl) rfl (by decide) rfl (by decide) k_ok3 (Or.inl (tw 308 rfl rfl)) rfl ?_
        refine am_go cd_M_close hc_M_close 105 2 (pc' := 173) (L' := [some (.ref 40), some (.int (nI (bst wt res))), some (.int (zI (wf wt res (-1)))), none, some (.int (nI k))]) (st' := [.int 0, .int (nI k), .ref 42]) rfl ?_
        refine am_iastore (k) (am_at hc_M_close 107 rfl) rfl (by decide) rfl (by show k < 5; omega) (Nat.le_of_ble_eq_true rfl) ?_
        have hA6 := hA5.esc (k := k) (v := 0)
        refine am_go cd_M_close hc_M_close 108 2 (pc' := 119) (L' := [some (.ref 40), some (.int (nI (bst wt res))), some (.int (zI (wf wt res (-1)))), none, some (.int (nI k + 1))]) (st' := []) rfl ?_
        rw [nI_1]
        refine ih (k + 1) _ (by omega) ?_ ((hf4.tr (fM.u (by decide))).tr (fM.u (by decide)))
        have e1 : upd (fun b => if b < k then cash b + (esc b - bpay wt res b) else cash b) k (cash k + (esc k - bpay wt res k)) = (fun b => if b < (k + 1) then cash b + (esc b - bpay wt res b) else cash b) := by
          funext b; unfold upd; by_cases z : b = k; · simp [z]
          by_cases z2 : b < k
          · simp [z, z2, show b < k + 1 by omega]
          · simp [z, z2, show ¬ b < k + 1 by omega]
        have e2 : upd (fun b => if b < k then 0 else esc b) k 0 = (fun b => if b < (k + 1) then 0 else esc b) := by
          funext b; unfold upd; by_cases z : b = k; · simp [z]
          by_cases z2 : b < k
          · simp [z, z2, show b < k + 1 by omega]
          · simp [z, z2, show ¬ b < k + 1 by omega]
        rw [e1, e2] at hA6
        exact hA6
    have loop2 : ∀ k, k ≤ 6 → ∀ d3, RM cash esc (fun b => if b < 5 then bpay wt res b else pd b) pt (fun i => if k ≤ i ∧ i < 6 then bow wt res i else ow i) res wt T n se true d3 → fM d d3 → cW l x (e + 3) L m_M_close 87 [some (.ref 40), some (.int (nI (bst wt res))), some (.int (zI (wf wt res (-1)))), some (.int (nI (bst wt res / 6 ^ (6 - k)))), some (.int (nI k - 1))] [] d3 (fun r d' => r = some (.int (zI (wf wt res (-1)))) ∧ RM (fun b => if b < 5 then cash b + (esc b - bpay wt res b) else cash b) (fun b => if b < 5 then 0 else esc b) (fun b => if b < 5 then bpay wt res b else pd b) pt (bow wt res) res wt T n (pays (bpay wt res) se 5) true d' ∧ fM d d') := by
      intro k
      induction k with
      | zero =>
        intro hk d3 hA3 hf3
        refine am_go cd_M_close hc_M_close 56 1 (pc' := 89) (L' := [some (.ref 40), some (.int (nI (bst wt res))), some (.int (zI (wf wt res (-1)))), some (.int (nI (bst wt res / 6 ^ (6 - 0)))), some (.int (nI 0 - 1))]) (st' := [.int (nI 0 - 1)]) rfl ?_
        refine am_if_lt 116 (am_at hc_M_close 57 rfl) (by decide) (fun q1 => ?_) (fun q1 => absurd (by decide) q1)
        refine am_go cd_M_close hc_M_close 73 2 (pc' := 119) (L' := [some (.ref 40), some (.int (nI (bst wt res))), some (.int (zI (wf wt res (-1)))), some (.int (nI (bst wt res / 6 ^ (6 - 0)))), some (.int 0)]) (st' := []) rfl ?_
        refine am_weak (L' := [some (.ref 40), some (.int (nI (bst wt res))), some (.int (zI (wf wt res (-1)))), none, some (.int 0)]) ⟨rfl, rfl, rfl, rfl, trivial⟩ ?_
        refine loop3 5 0 d3 rfl ?_ hf3
        simp only [Nat.not_lt_zero, if_false]
        obtain ⟨g1, g2, g3, g4, g5, g6⟩ := hA3
        exact ⟨g1, g2, g3, g4, fun j hj => (g5 j hj).trans (if_pos ⟨by omega, hj⟩), g6⟩
      | succ j ih =>
        intro hk d3 hA3 hf3
        rw [nI_pred]
        have hq : bst wt res / 6 ^ (6 - (j + 1)) < 46656 := Nat.lt_of_le_of_lt (Nat.div_le_self _ _) hbe.2.2
        rw [show 6 - (j + 1) = 5 - j by omega] at hq ⊢
        refine am_go cd_M_close hc_M_close 56 1 (pc' := 89) (L' := [some (.ref 40), some (.int (nI (bst wt res))), some (.int (zI (wf wt res (-1)))), some (.int (nI (bst wt res / 6 ^ (5 - j)))), some (.int (nI j))]) (st' := [.int (nI j)]) rfl ?_
        refine am_if_lt 116 (am_at hc_M_close 57 rfl) (by decide) (fun q1 => absurd q1 (nI_pos (by omega))) (fun q1 => ?_)
        refine am_go cd_M_close hc_M_close 58 1 (pc' := 93) (L' := [some (.ref 40), some (.int (nI (bst wt res))), some (.int (zI (wf wt res (-1)))), some (.int (nI (bst wt res / 6 ^ (5 - j)))), some (.int (nI j))]) (st' := [.ref 40]) rfl ?_
        refine am_getf 3 17 k_r3 (am_at hc_M_close 59 rfl) rfl (by decide) rfl (by decide) k_ok3 (Or.inl (tw 323 rfl rfl)) rfl ?_
        refine am_go cd_M_close hc_M_close 60 3 (pc' := 101) (L' := [some (.ref 40), some (.int (nI (bst wt res))), some (.int (zI (wf wt res (-1)))), some (.int (nI (bst wt res / 6 ^ (5 - j)))), some (.int (nI j))]) (st' := [.int 6, .int (nI (bst wt res / 6 ^ (5 - j))), .int (nI j), .ref 51]) rfl ?_
        refine am_irem (am_at hc_M_close 63 rfl) (by decide) ?_
        rw [show nI (bst wt res / 6 ^ (5 - j)) - nI (bst wt res / 6 ^ (5 - j)) / 6 * 6 = nI (bst wt res / 6 ^ (5 - j) % 6) from pk_rem (d := 6) (by omega) (by decide) (by decide)]
        refine am_go cd_M_close hc_M_close 64 2 (pc' := 104) (L' := [some (.ref 40), some (.int (nI (bst wt res))), some (.int (zI (wf wt res (-1)))), some (.int (nI (bst wt res / 6 ^ (5 - j)))), some (.int (nI j))]) (st' := [.int (nI (bst wt res / 6 ^ (5 - j) % 6) - 1), .int (nI j), .ref 51]) rfl ?_
        rw [show nI (bst wt res / 6 ^ (5 - j) % 6) - 1 = bow wt res j from by rw [nI_zI]; exact zI_sub _ 1]
        refine am_iastore (j) (am_at hc_M_close 66 rfl) rfl (by decide) rfl (by show j < 6; omega) (Nat.le_of_ble_eq_true rfl) ?_
        have hA4 := hA3.ow (k := j) (v := bow wt res j)
        refine am_go cd_M_close hc_M_close 67 2 (pc' := 108) (L' := [some (.ref 40), some (.int (nI (bst wt res))), some (.int (zI (wf wt res (-1)))), some (.int (nI (bst wt res / 6 ^ (5 - j)))), some (.int (nI j))]) (st' := [.int 6, .int (nI (bst wt res / 6 ^ (5 - j)))]) rfl ?_
        refine am_idiv (am_at hc_M_close 69 rfl) (by decide) ?_
        rw [show nI (bst wt res / 6 ^ (5 - j)) / 6 = nI (bst wt res / 6 ^ (6 - j)) from by rw [show (6 : Int32) = nI 6 from rfl, pk_div (by omega) (by decide) (by decide), Nat.div_div_eq_div_mul, ← Nat.pow_succ, show (5 - j).succ = 6 - j by omega]]
        refine am_go cd_M_close hc_M_close 70 3 (pc' := 87) (L' := [some (.ref 40), some (.int (nI (bst wt res))), some (.int (zI (wf wt res (-1)))), some (.int (nI (bst wt res / 6 ^ (6 - j)))), some (.int (nI j + (-1)))]) (st' := []) rfl ?_
        rw [i_dec]
        refine ih (by omega) _ ?_ (hf3.tr (fM.u (by decide)))
        have e1 : upd (fun i => if (j + 1) ≤ i ∧ i < 6 then bow wt res i else ow i) j (bow wt res j) = (fun i => if j ≤ i ∧ i < 6 then bow wt res i else ow i) := by
          funext b; unfold upd; dsimp only; by_cases z : b = j
          · subst z; rw [if_pos rfl, if_pos ⟨Nat.le_refl _, by omega⟩]
          · rw [if_neg z]; by_cases z2 : j ≤ b ∧ b < 6
            · rw [if_pos (by omega), if_pos z2]
            · rw [if_neg (by omega), if_neg z2]
        rw [e1] at hA4
        exact hA4
    have loop1 : ∀ q k d3, k + q = 5 → RM cash esc (fun b => if b < k then bpay wt res b else pd b) pt ow res wt T n se true d3 → fM d d3 → cW l x (e + 3) L m_M_close 30 [some (.ref 40), some (.int (nI (bst wt res))), some (.int (zI (wf wt res (-1)))), some (.int (nI k)), none] [] d3 (fun r d' => r = some (.int (zI (wf wt res (-1)))) ∧ RM (fun b => if b < 5 then cash b + (esc b - bpay wt res b) else cash b) (fun b => if b < 5 then 0 else esc b) (fun b => if b < 5 then bpay wt res b else pd b) pt (bow wt res) res wt T n (pays (bpay wt res) se 5) true d' ∧ fM d d') := by
      intro q
      induction q with
      | zero =>
        intro k d3 hk hA3 hf3
        have hk5 : k = 5 := by omega
        subst hk5
        refine am_go cd_M_close hc_M_close 19 2 (pc' := 32) (L' := [some (.ref 40), some (.int (nI (bst wt res))), some (.int (zI (wf wt res (-1)))), some (.int (nI 5)), none]) (st' := [.int 5, .int (nI 5)]) rfl ?_
        refine am_icmp_ge 82 (am_at hc_M_close 21 rfl) (by decide) (fun q1 => ?_) (fun q1 => absurd (nI_le (a := 5) (b := 5) (by omega) (by omega)) q1)
        refine am_go cd_M_close hc_M_close 52 4 (pc' := 87) (L' := [some (.ref 40), some (.int (nI (bst wt res))), some (.int (zI (wf wt res (-1)))), some (.int (nI (bst wt res))), some (.int 5)]) (st' := []) rfl ?_
        have e1 : (fun i => if 6 ≤ i ∧ i < 6 then bow wt res i else ow i) = ow := by funext j; rw [if_neg (by omega)]
        have h0 := loop2 6 (Nat.le_refl _) d3 (by rw [e1]; exact hA3) hf3
        rw [show 6 - 6 = 0 from rfl, Nat.pow_zero, Nat.div_one] at h0
        exact h0
      | succ q ih =>
        intro k d3 hk hA3 hf3
        refine am_go cd_M_close hc_M_close 19 2 (pc' := 32) (L' := [some (.ref 40), some (.int (nI (bst wt res))), some (.int (zI (wf wt res (-1)))), some (.int (nI k)), none]) (st' := [.int 5, .int (nI k)]) rfl ?_
        refine am_icmp_ge 82 (am_at hc_M_close 21 rfl) (by decide) (fun q1 => absurd q1 (nI_ge (a := k) (b := 5) (by omega) (by omega))) (fun q1 => ?_)
        refine am_go cd_M_close hc_M_close 22 2 (pc' := 37) (L' := [some (.ref 40), some (.int (nI (bst wt res))), some (.int (zI (wf wt res (-1)))), some (.int (nI k)), none]) (st' := [.int (nI k), .ref 40]) rfl ?_
        have hkB : nI k = -1 ∨ isB (nI k) := Or.inr ⟨nI_pos' (by omega), nI_lt (a := k) (b := 5) (by omega) (by omega)⟩
        have hkz : (nI k).toInt = (k : Int) := nI_toInt (by omega)
        refine cW.callV (st := []) [.int (nI k)] (am_at hc_M_close 24 rfl) g_M_welfare (Or.inl (tw 458 rfl rfl)) (tw 442 rfl rfl) (tw 443 rfl rfl) 3 k_r3 rfl (by decide) rfl rfl rfl rfl (Nat.le_of_ble_eq_true rfl) (c_M_welfare hA3 (nI k)) ?_
        rintro _ d4 ⟨rfl, hA4, hf4⟩
        rw [if_pos hkB, hkz]
        show cW _ _ (e + 3) _ m_M_close 40 [some (.ref 40), some (.int (nI (bst wt res))), some (.int (zI (wf wt res (-1)))), some (.int (nI k)), none] [.int (zI (wf wt res k))] _ _
        refine am_go cd_M_close hc_M_close 25 4 (pc' := 45) (L' := [some (.ref 40), some (.int (nI (bst wt res))), some (.int (zI (wf wt res (-1)))), some (.int (nI k)), some (.int (zI (wf wt res k)))]) (st' := [.int (-1), .int (nI (bst wt res)), .ref 40]) rfl ?_
        refine cW.callV (st := []) [.int (nI (bst wt res)), .int (-1)] (am_at hc_M_close 29 rfl) g_M_welfareOf (Or.inl (tw 450 rfl rfl)) (tw 452 rfl rfl) (tp 29 rfl rfl) 3 k_r3 rfl (by decide) rfl rfl rfl rfl (Nat.le_of_ble_eq_true rfl) (c_M_welfareOf hA4 hbe.2.2 (lo := -1) (by decide) (by decide)) ?_
        rintro _ d5 ⟨rfl, hA5, hf5, hg⟩
        rw [hbe.1]
        show cW _ _ (e + 3) _ m_M_close 48 [some (.ref 40), some (.int (nI (bst wt res))), some (.int (zI (wf wt res (-1)))), some (.int (nI k)), some (.int (zI (wf wt res k)))] [.int (zI (wf wt res (-1)))] _ _
        have hgl := gbr_lt (bst wt res) k 6 (by decide)
        refine am_go cd_M_close hc_M_close 30 2 (pc' := 50) (L' := [some (.ref 40), some (.int (nI (bst wt res))), some (.int (zI (wf wt res (-1)))), some (.int (nI k)), some (.int (zI (wf wt res k)))]) (st' := [.ref 40]) rfl ?_
        refine am_getf 3 18 k_r3 (am_at hc_M_close 32 rfl) rfl (by decide) rfl (by decide) k_ok3 (Or.inl (tw 324 rfl rfl)) rfl ?_
        refine am_go cd_M_close hc_M_close 33 4 (pc' := 58) (L' := [some (.ref 40), some (.int (nI (bst wt res))), some (.int (zI (wf wt res (-1)))), some (.int (nI k)), some (.int (zI (wf wt res k)))]) (st' := [.int (zI (wf wt res k) - zI (wf wt res (-1))), .int (nI k), .ref 52]) rfl ?_
        rw [show zI (wf wt res k) - zI (wf wt res (-1)) = zI (wf wt res k - wf wt res (-1)) from zI_sub _ _]
        refine am_go cd_M_close hc_M_close 37 1 (pc' := 59) (L' := [some (.ref 40), some (.int (nI (bst wt res))), some (.int (zI (wf wt res (-1)))), some (.int (nI k)), some (.int (zI (wf wt res k)))]) (st' := [.ref 40, .int (zI (wf wt res k - wf wt res (-1))), .int (nI k), .ref 52]) rfl ?_
        refine am_getf 3 7 k_r3 (am_at hc_M_close 38 rfl) rfl (by decide) rfl (by decide) k_ok3 (Or.inl (tw 313 rfl rfl)) rfl ?_
        refine am_go cd_M_close hc_M_close 39 4 (pc' := 67) (L' := [some (.ref 40), some (.int (nI (bst wt res))), some (.int (zI (wf wt res (-1)))), some (.int (nI k)), some (.int (zI (wf wt res k)))]) (st' := [.ref 40, .int (64 * nI k), .ref 45, .int (zI (wf wt res k - wf wt res (-1))), .int (nI k), .ref 52]) rfl ?_
        refine am_getf 3 16 k_r3 (am_at hc_M_close 43 rfl) rfl (by decide) rfl (by decide) k_ok3 (Or.inl (tw 322 rfl rfl)) rfl ?_
        refine am_go cd_M_close hc_M_close 44 1 (pc' := 71) (L' := [some (.ref 40), some (.int (nI (bst wt res))), some (.int (zI (wf wt res (-1)))), some (.int (nI k)), some (.int (zI (wf wt res k)))]) (st' := [.int (nI k), .ref 50, .int (64 * nI k), .ref 45, .int (zI (wf wt res k - wf wt res (-1))), .int (nI k), .ref 52]) rfl ?_
        refine am_iaload (k) (am_at hc_M_close 45 rfl) rfl (Or.inl (by decide)) rfl (by show k < 5; omega) (Nat.le_of_ble_eq_true rfl) ?_
        rw [show d5 50 k = nI (gbr (bst wt res) k 6) from hg k (by omega)]
        refine am_go cd_M_close hc_M_close 46 1 (pc' := 73) (L' := [some (.ref 40), some (.int (nI (bst wt res))), some (.int (zI (wf wt res (-1)))), some (.int (nI k)), some (.int (zI (wf wt res k)))]) (st' := [.int ((64 * nI k) + nI (gbr (bst wt res) k 6)), .ref 45, .int (zI (wf wt res k - wf wt res (-1))), .int (nI k), .ref 52]) rfl ?_
        refine am_iaload (64 * k + gbr (bst wt res) k 6) (am_at hc_M_close 47 rfl) rfl (Or.inl (by decide)) (by rw [← nI_add, ← pk_mul]; rfl) (by show 64 * k + gbr (bst wt res) k 6 < 320; omega) (Nat.le_of_ble_eq_true rfl) ?_
        rw [show d5 45 (64 * k + gbr (bst wt res) k 6) = zI (wt k (gbr (bst wt res) k 6)) from (hA5.2.2.2.2.2.2.1 k (by omega)).2 _ hgl]
        refine am_go cd_M_close hc_M_close 48 1 (pc' := 75) (L' := [some (.ref 40), some (.int (nI (bst wt res))), some (.int (zI (wf wt res (-1)))), some (.int (nI k)), some (.int (zI (wf wt res k)))]) (st' := [.int (zI (wf wt res k - wf wt res (-1)) + zI (wt k (gbr (bst wt res) k 6))), .int (nI k), .ref 52]) rfl ?_
        rw [show zI (wf wt res k - wf wt res (-1)) + zI (wt k (gbr (bst wt res) k 6)) = bpay wt res k from by rw [zI_add]; unfold bpay payb; rw [sto_bow wt res (by omega)]]
        refine am_iastore (k) (am_at hc_M_close 49 rfl) rfl (by decide) rfl (by show k < 5; omega) (Nat.le_of_ble_eq_true rfl) ?_
        have hA6 := hA5.pd (k := k) (v := bpay wt res k)
        refine am_go cd_M_close hc_M_close 50 2 (pc' := 30) (L' := [some (.ref 40), some (.int (nI (bst wt res))), some (.int (zI (wf wt res (-1)))), some (.int (nI k + 1)), some (.int (zI (wf wt res k)))]) (st' := []) rfl ?_
        refine am_weak (L' := [some (.ref 40), some (.int (nI (bst wt res))), some (.int (zI (wf wt res (-1)))), some (.int (nI k + 1)), none]) ⟨rfl, rfl, rfl, rfl, trivial⟩ ?_
        rw [nI_1]
        refine ih (k + 1) _ (by omega) ?_ (((hf3.tr hf4).tr hf5).tr (fM.u (by decide)))
        have e1 : upd (fun b => if b < k then bpay wt res b else pd b) k (bpay wt res k) = (fun b => if b < (k + 1) then bpay wt res b else pd b) := by
          funext b; unfold upd; by_cases z : b = k; · simp [z]
          by_cases z2 : b < k
          · simp [z, z2, show b < k + 1 by omega]
          · simp [z, z2, show ¬ b < k + 1 by omega]
        rw [e1] at hA6
        exact hA6
    refine loop1 5 0 d2 rfl ?_ ((hf0.tr hf1).tr hf2)
    simp only [Nat.not_lt_zero, if_false]
    exact hR2
end
section
/-- the text stands in the reference -/
def tm (d : am_D) (T : Nat → Nat) (n : Nat) : Prop := d 40 5 = nI n ∧ n ≤ 40 ∧ ∀ j, j < n → d 44 j = nI (T j) ∧ T j < 128
theorem tm.to {d d' : am_D} {T : Nat → Nat} {n : Nat} (h : tm d T n) (h1 : d' 40 5 = d 40 5) (h2 : d' 44 = d 44) : tm d' T n := ⟨h1.trans h.1, h.2.1, fun j hj => by rw [h2]; exact h.2.2 j hj⟩
theorem tm.u {d : am_D} {T : Nat → Nat} {n : Nat} (h : tm d T n) {a j : Nat} {v : Int32} (ha : a ≠ 44) (hj : ¬ (40 = a ∧ 5 = j)) : tm (am_u d a j v) T n := h.to (am_u_o hj) (am_u_ne 44 (Ne.symm ha))
set_option maxRecDepth 100000 in
set_option maxHeartbeats 4000000 in
theorem c_M_digit {l : Launch} {x : am_X} {e L : Nat} {d : am_D} {T : Nat → Nat} {n : Nat} (hr : tm d T n) {i : Nat} (hi : i ≤ 1000) : cM l x e L m_M_digit [.ref 40, .int (nI i)] d (cR (some (.int (bI (pr_dg T n i)))) d) := by
  refine cM.go (by decide) (by simp [Value.category]) (Nat.le_of_ble_eq_true rfl) ?_
  have hn := hr.2.1
  refine am_go cd_M_digit hc_M_digit 0 2 (pc' := 2) (L' := [some (.ref 40), some (.int (nI i))]) (st' := [.ref 40, .int (nI i)]) rfl ?_
  refine am_getf 3 5 k_r3 (am_at hc_M_digit 2 rfl) rfl (by decide) rfl (by decide) k_ok3 (Or.inl (tw 311 rfl rfl)) (congrArg Value.int hr.1) ?_
  refine am_icmp_ge 34 (am_at hc_M_digit 3 rfl) (by decide) (fun h1 => ?_) (fun h1 => ?_)
  · have h2 := (nI_leI (by omega) (by omega)).mp h1
    have e0 : pr_dg T n i = false := decide_eq_false (fun z => by omega)
    refine am_go cd_M_digit hc_M_digit 18 1 (pc' := 35) (L' := [some (.ref 40), some (.int (nI i))]) (st' := [.int 0]) rfl ?_
    exact am_iret (am_at hc_M_digit 19 rfl) rfl rfl (cR_in (by rw [e0]; rfl) rfl)
  · have h2 : i < n := Nat.not_le.mp (fun z => h1 ((nI_leI (by omega) (by omega)).mpr z))
    have hT := (hr.2.2 i h2).1
    have hT2 := (hr.2.2 i h2).2
    refine am_go cd_M_digit hc_M_digit 4 1 (pc' := 9) (L' := [some (.ref 40), some (.int (nI i))]) (st' := [.ref 40]) rfl ?_
    refine am_getf 3 6 k_r3 (am_at hc_M_digit 5 rfl) rfl (by decide) rfl (by decide) k_ok3 (Or.inl (tw 312 rfl rfl)) rfl ?_
    refine am_go cd_M_digit hc_M_digit 6 1 (pc' := 13) (L' := [some (.ref 40), some (.int (nI i))]) (st' := [.int (nI i), .ref 44]) rfl ?_
    refine am_iaload (i) (am_at hc_M_digit 7 rfl) rfl (Or.inl (by decide)) rfl (by show i < 40; omega) (Nat.le_of_ble_eq_true rfl) ?_
    rw [show d 44 i = nI (T i) from hT]
    refine am_go cd_M_digit hc_M_digit 8 1 (pc' := 16) (L' := [some (.ref 40), some (.int (nI i))]) (st' := [.int 48, .int (nI (T i))]) rfl ?_
    refine am_icmp_lt 34 (am_at hc_M_digit 9 rfl) (by decide) (fun h3 => ?_) (fun h3 => ?_)
    · have h4 : T i < 48 := (nI_ltI (b := 48) (by omega) (by omega)).mp h3
      have e0 : pr_dg T n i = false := decide_eq_false (fun z => by omega)
      refine am_go cd_M_digit hc_M_digit 18 1 (pc' := 35) (L' := [some (.ref 40), some (.int (nI i))]) (st' := [.int 0]) rfl ?_
      exact am_iret (am_at hc_M_digit 19 rfl) rfl rfl (cR_in (by rw [e0]; rfl) rfl)
    · have h4 : 48 ≤ T i := Nat.not_lt.mp (fun z => h3 ((nI_ltI (b := 48) (by omega) (by omega)).mpr z))
      refine am_go cd_M_digit hc_M_digit 10 1 (pc' := 20) (L' := [some (.ref 40), some (.int (nI i))]) (st' := [.ref 40]) rfl ?_
      refine am_getf 3 6 k_r3 (am_at hc_M_digit 11 rfl) rfl (by decide) rfl (by decide) k_ok3 (Or.inl (tw 312 rfl rfl)) rfl ?_
      refine am_go cd_M_digit hc_M_digit 12 1 (pc' := 24) (L' := [some (.ref 40), some (.int (nI i))]) (st' := [.int (nI i), .ref 44]) rfl ?_
      refine am_iaload (i) (am_at hc_M_digit 13 rfl) rfl (Or.inl (by decide)) rfl (by show i < 40; omega) (Nat.le_of_ble_eq_true rfl) ?_
      rw [show d 44 i = nI (T i) from hT]
      refine am_go cd_M_digit hc_M_digit 14 1 (pc' := 27) (L' := [some (.ref 40), some (.int (nI i))]) (st' := [.int 57, .int (nI (T i))]) rfl ?_
      refine am_icmp_gt 34 (am_at hc_M_digit 15 rfl) (by decide) (fun h5 => ?_) (fun h5 => ?_)
      · have h6 : 57 < T i := (nI_ltI (a := 57) (by omega) (by omega)).mp h5
        have e0 : pr_dg T n i = false := decide_eq_false (fun z => by omega)
        refine am_go cd_M_digit hc_M_digit 18 1 (pc' := 35) (L' := [some (.ref 40), some (.int (nI i))]) (st' := [.int 0]) rfl ?_
        exact am_iret (am_at hc_M_digit 19 rfl) rfl rfl (cR_in (by rw [e0]; rfl) rfl)
      · have h6 : T i ≤ 57 := Nat.not_lt.mp (fun z => h5 ((nI_ltI (a := 57) (by omega) (by omega)).mpr z))
        have e0 : pr_dg T n i = true := decide_eq_true ⟨h2, h4, h6⟩
        refine am_go cd_M_digit hc_M_digit 16 2 (pc' := 35) (L' := [some (.ref 40), some (.int (nI i))]) (st' := [.int 1]) rfl ?_
        exact am_iret (am_at hc_M_digit 19 rfl) rfl rfl (cR_in (by rw [e0]; rfl) rfl)
set_option maxRecDepth 100000 in
set_option maxHeartbeats 4000000 in
theorem c_M_letter {l : Launch} {x : am_X} {e L : Nat} {d : am_D} {T : Nat → Nat} {n : Nat} (hr : tm d T n) {i : Nat} (hi : i ≤ 1000) : cM l x e L m_M_letter [.ref 40, .int (nI i)] d (cR (some (.int (bI (pr_lt T n i)))) d) := by
  refine cM.go (by decide) (by simp [Value.category]) (Nat.le_of_ble_eq_true rfl) ?_
  have hn := hr.2.1
  refine am_go cd_M_letter hc_M_letter 0 2 (pc' := 2) (L' := [some (.ref 40), some (.int (nI i))]) (st' := [.ref 40, .int (nI i)]) rfl ?_
  refine am_getf 3 5 k_r3 (am_at hc_M_letter 2 rfl) rfl (by decide) rfl (by decide) k_ok3 (Or.inl (tw 311 rfl rfl)) (congrArg Value.int hr.1) ?_
  refine am_icmp_ge 34 (am_at hc_M_letter 3 rfl) (by decide) (fun h1 => ?_) (fun h1 => ?_)
  · have h2 := (nI_leI (by omega) (by omega)).mp h1
    have e0 : pr_lt T n i = false := decide_eq_false (fun z => by omega)
    refine am_go cd_M_letter hc_M_letter 18 1 (pc' := 35) (L' := [some (.ref 40), some (.int (nI i))]) (st' := [.int 0]) rfl ?_
    exact am_iret (am_at hc_M_letter 19 rfl) rfl rfl (cR_in (by rw [e0]; rfl) rfl)
  · have h2 : i < n := Nat.not_le.mp (fun z => h1 ((nI_leI (by omega) (by omega)).mpr z))
    have hT := (hr.2.2 i h2).1
    have hT2 := (hr.2.2 i h2).2
    refine am_go cd_M_letter hc_M_letter 4 1 (pc' := 9) (L' := [some (.ref 40), some (.int (nI i))]) (st' := [.ref 40]) rfl ?_
    refine am_getf 3 6 k_r3 (am_at hc_M_letter 5 rfl) rfl (by decide) rfl (by decide) k_ok3 (Or.inl (tw 312 rfl rfl)) rfl ?_
    refine am_go cd_M_letter hc_M_letter 6 1 (pc' := 13) (L' := [some (.ref 40), some (.int (nI i))]) (st' := [.int (nI i), .ref 44]) rfl ?_
    refine am_iaload (i) (am_at hc_M_letter 7 rfl) rfl (Or.inl (by decide)) rfl (by show i < 40; omega) (Nat.le_of_ble_eq_true rfl) ?_
    rw [show d 44 i = nI (T i) from hT]
    refine am_go cd_M_letter hc_M_letter 8 1 (pc' := 16) (L' := [some (.ref 40), some (.int (nI i))]) (st' := [.int 97, .int (nI (T i))]) rfl ?_
    refine am_icmp_lt 34 (am_at hc_M_letter 9 rfl) (by decide) (fun h3 => ?_) (fun h3 => ?_)
    · have h4 : T i < 97 := (nI_ltI (b := 97) (by omega) (by omega)).mp h3
      have e0 : pr_lt T n i = false := decide_eq_false (fun z => by omega)
      refine am_go cd_M_letter hc_M_letter 18 1 (pc' := 35) (L' := [some (.ref 40), some (.int (nI i))]) (st' := [.int 0]) rfl ?_
      exact am_iret (am_at hc_M_letter 19 rfl) rfl rfl (cR_in (by rw [e0]; rfl) rfl)
    · have h4 : 97 ≤ T i := Nat.not_lt.mp (fun z => h3 ((nI_ltI (b := 97) (by omega) (by omega)).mpr z))
      refine am_go cd_M_letter hc_M_letter 10 1 (pc' := 20) (L' := [some (.ref 40), some (.int (nI i))]) (st' := [.ref 40]) rfl ?_
      refine am_getf 3 6 k_r3 (am_at hc_M_letter 11 rfl) rfl (by decide) rfl (by decide) k_ok3 (Or.inl (tw 312 rfl rfl)) rfl ?_
      refine am_go cd_M_letter hc_M_letter 12 1 (pc' := 24) (L' := [some (.ref 40), some (.int (nI i))]) (st' := [.int (nI i), .ref 44]) rfl ?_
      refine am_iaload (i) (am_at hc_M_letter 13 rfl) rfl (Or.inl (by decide)) rfl (by show i < 40; omega) (Nat.le_of_ble_eq_true rfl) ?_
      rw [show d 44 i = nI (T i) from hT]
      refine am_go cd_M_letter hc_M_letter 14 1 (pc' := 27) (L' := [some (.ref 40), some (.int (nI i))]) (st' := [.int 102, .int (nI (T i))]) rfl ?_
      refine am_icmp_gt 34 (am_at hc_M_letter 15 rfl) (by decide) (fun h5 => ?_) (fun h5 => ?_)
      · have h6 : 102 < T i := (nI_ltI (a := 102) (by omega) (by omega)).mp h5
        have e0 : pr_lt T n i = false := decide_eq_false (fun z => by omega)
        refine am_go cd_M_letter hc_M_letter 18 1 (pc' := 35) (L' := [some (.ref 40), some (.int (nI i))]) (st' := [.int 0]) rfl ?_
        exact am_iret (am_at hc_M_letter 19 rfl) rfl rfl (cR_in (by rw [e0]; rfl) rfl)
      · have h6 : T i ≤ 102 := Nat.not_lt.mp (fun z => h5 ((nI_ltI (a := 102) (by omega) (by omega)).mpr z))
        have e0 : pr_lt T n i = true := decide_eq_true ⟨h2, h4, h6⟩
        refine am_go cd_M_letter hc_M_letter 16 2 (pc' := 35) (L' := [some (.ref 40), some (.int (nI i))]) (st' := [.int 1]) rfl ?_
        exact am_iret (am_at hc_M_letter 19 rfl) rfl rfl (cR_in (by rw [e0]; rfl) rfl)
/-- one character: the next state, letters, depth, parts; none: a fault -/
def au_nx (T : Nat → Nat) (n i st ms dp fd : Nat) : Option (Nat × Nat × Nat × Nat) :=
  if st = 0 then (if pr_dg T n i = true then some (1, 0, dp, fd + 1) else if T i = 40 ∧ dp < 8 then some (0, 0, dp + 1, fd) else none)
  else if pr_dg T n i = true then (if st = 1 ∨ st = 2 ∨ (6 ≤ st ∧ st ≤ 8) then some (st + 1, ms, dp, fd) else none)
  else if pr_lt T n i = true then (if st ≤ 4 ∧ ms.testBit (T i - 97) = false then some (4, ms ||| 2 ^ (T i - 97), dp, fd) else none)
  else if 4 ≤ st ∧ st ≠ 6 then (if T i = 43 ∨ T i = 94 then some (0, ms, dp, fd + 1) else if T i = 60 then some (6, ms, dp, fd + 1) else if T i = 41 ∧ 0 < dp then some (5, ms, dp - 1, fd) else none)
  else none
def au_run (T : Nat → Nat) (n : Nat) : Nat → Nat → Nat → Nat → Nat → Nat → Int × Nat
  | 0, _, st, _, dp, fd => if dp = 0 ∧ 4 ≤ st ∧ st ≠ 6 then (-1, fd) else (n, fd)
  | k + 1, i, st, ms, dp, fd => match au_nx T n i st ms dp fd with
    | none => (i, 0)
    | some r => if 12 < r.2.2.2 then (i, 0) else au_run T n k (i + 1) r.1 r.2.1 r.2.2.1 r.2.2.2
theorem au_run_none {T : Nat → Nat} {n k i st ms dp fd : Nat} (h : au_nx T n i st ms dp fd = none) : au_run T n (k + 1) i st ms dp fd = ((i : Int), 0) := by
  rw [au_run, h]
theorem au_run_some {T : Nat → Nat} {n k i st ms dp fd : Nat} {r : Nat × Nat × Nat × Nat} (h : au_nx T n i st ms dp fd = some r) : au_run T n (k + 1) i st ms dp fd = if 12 < r.2.2.2 then ((i : Int), 0) else au_run T n k (i + 1) r.1 r.2.1 r.2.2.1 r.2.2.2 := by
  rw [au_run, h]
theorem am_uu (d : am_D) (a j : Nat) (v w : Int32) : am_u (am_u d a j v) a j w = am_u d a j w := am_u_u d a j v w
set_option maxRecDepth 100000 in
set_option maxHeartbeats 4000000 in
theorem c_M_fault {l : Launch} {x : am_X} {e L : Nat} {d : am_D} {T : Nat → Nat} {n : Nat} (hr : tm d T n) : cM l x (e + 1) L m_M_fault [.ref 40] d (fun r d' => r = some (.int (zI (au_run T n n 0 0 0 0 0).1)) ∧ ∃ v, d' = am_u d 40 15 v ∧ ((au_run T n n 0 0 0 0 0).1 = -1 → v = nI (au_run T n n 0 0 0 0 0).2)) := by
  refine cM.go (by decide) (by simp [Value.category]) (Nat.le_of_ble_eq_true rfl) ?_
  have hn := hr.2.1
  generalize hRR : au_run T n n 0 0 0 0 0 = RR
  refine am_go cd_M_fault hc_M_fault 0 8 (pc' := 8) (L' := [some (.ref 40), some (.int 0), some (.int 0), some (.int 0), none, none, none, none]) (st' := [.int 0, .ref 40]) rfl ?_
  refine am_putI 3 15 k_r3 (am_at hc_M_fault 8 rfl) rfl (by decide) rfl (by decide) k_ok3 (tw 321 rfl rfl) rfl rfl rfl rfl ?_
  refine am_go cd_M_fault hc_M_fault 9 2 (pc' := 14) (L' := [some (.ref 40), some (.int 0), some (.int 0), some (.int 0), some (.int 0), none, none, none]) (st' := []) rfl ?_
  have hD : ∀ v, tm (am_u d 40 15 v) T n := fun v => hr.u (by decide) (by decide)
  have chkF : ∀ (i : Nat) (v : Int32), ((i : Int), 0) = RR → cW l x (e + 1) L m_M_fault 304 [some (.ref 40), none, none, none, some (.int (nI i)), none, some (.int (-1)), none] [] (am_u d 40 15 v) (fun r d' => r = some (.int (zI RR.1)) ∧ ∃ v, d' = am_u d 40 15 v ∧ (RR.1 = -1 → v = nI RR.2)) := by
    intro i v he
    refine am_go cd_M_fault hc_M_fault 163 1 (pc' := 306) (L' := [some (.ref 40), none, none, none, some (.int (nI i)), none, some (.int (-1)), none]) (st' := [.int (-1)]) rfl ?_
    refine am_if_lt 318 (am_at hc_M_fault 164 rfl) (by decide) (fun q1 => ?_) (fun q1 => absurd (by decide) q1)
    refine am_go cd_M_fault hc_M_fault 169 1 (pc' := 320) (L' := [some (.ref 40), none, none, none, some (.int (nI i)), none, some (.int (-1)), none]) (st' := [.int (nI i)]) rfl ?_
    refine am_iret (am_at hc_M_fault 170 rfl) rfl rfl ⟨rfl, rfl, by rw [← he, nI_zI], v, rfl, fun z => ?_⟩
    rw [← he] at z; exact absurd z (by show ¬ (i : Int) = -1; omega)
  have loop : ∀ k i st ms dp fd, i + k = n → st ≤ 9 → ms < 64 → dp ≤ 8 → fd ≤ 12 → au_run T n k i st ms dp fd = RR → cW l x (e + 1) L m_M_fault 14 [some (.ref 40), some (.int (nI st)), some (.int (nI ms)), some (.int (nI dp)), some (.int (nI i)), none, none, none] [] (am_u d 40 15 (nI fd)) (fun r d' => r = some (.int (zI RR.1)) ∧ ∃ v, d' = am_u d 40 15 v ∧ (RR.1 = -1 → v = nI RR.2)) := by
    intro k
    induction k with
    | zero =>
      intro i st ms dp fd hi hst hms hdp hfd he
      unfold au_run at he
      have hin : i = n := by omega
      refine am_go cd_M_fault hc_M_fault 11 2 (pc' := 17) (L' := [some (.ref 40), some (.int (nI st)), some (.int (nI ms)), some (.int (nI dp)), some (.int (nI i)), none, none, none]) (st' := [.ref 40, .int (nI i)]) rfl ?_
      refine am_getf 3 5 k_r3 (am_at hc_M_fault 13 rfl) rfl (by decide) rfl (by decide) k_ok3 (Or.inl (tw 311 rfl rfl)) (congrArg Value.int (hD _).1) ?_
      refine am_icmp_ge 330 (am_at hc_M_fault 14 rfl) (by decide) (fun q1 => ?_) (fun q1 => absurd (nI_le (by omega) (by omega)) q1)
      refine am_go cd_M_fault hc_M_fault 175 1 (pc' := 331) (L' := [some (.ref 40), some (.int (nI st)), some (.int (nI ms)), some (.int (nI dp)), some (.int (nI i)), none, none, none]) (st' := [.int (nI dp)]) rfl ?_
      refine am_if_ne 349 (am_at hc_M_fault 176 rfl) (by decide) (fun q2 => ?_) (fun q2 => ?_)
      · skip
        rw [if_neg (fun z => q2 (by rw [z.1]; rfl))] at he
        refine am_go cd_M_fault hc_M_fault 185 1 (pc' := 350) (L' := [some (.ref 40), some (.int (nI st)), some (.int (nI ms)), some (.int (nI dp)), some (.int (nI i)), none, none, none]) (st' := [.ref 40]) rfl ?_
        refine am_getf 3 5 k_r3 (am_at hc_M_fault 186 rfl) rfl (by decide) rfl (by decide) k_ok3 (Or.inl (tw 311 rfl rfl)) (congrArg Value.int (hD _).1) ?_
        exact am_iret (am_at hc_M_fault 187 rfl) rfl rfl ⟨rfl, rfl, by rw [← he, nI_zI], _, rfl, fun z => absurd z (by rw [← he]; show ¬ (n : Int) = -1; omega)⟩
      · have hd0 : dp = 0 := (nI_eq (b := 0) (by omega) (by decide)).mp q2
        refine am_go cd_M_fault hc_M_fault 177 2 (pc' := 336) (L' := [some (.ref 40), some (.int (nI st)), some (.int (nI ms)), some (.int (nI dp)), some (.int (nI i)), none, none, none]) (st' := [.int 4, .int (nI st)]) rfl ?_
        refine am_icmp_lt 349 (am_at hc_M_fault 179 rfl) (by decide) (fun q3 => ?_) (fun q3 => ?_)
        · have h4 : st < 4 := (nI_ltI (b := 4) (by omega) (by decide)).mp q3
          rw [if_neg (fun z => by omega)] at he
          refine am_go cd_M_fault hc_M_fault 185 1 (pc' := 350) (L' := [some (.ref 40), some (.int (nI st)), some (.int (nI ms)), some (.int (nI dp)), some (.int (nI i)), none, none, none]) (st' := [.ref 40]) rfl ?_
          refine am_getf 3 5 k_r3 (am_at hc_M_fault 186 rfl) rfl (by decide) rfl (by decide) k_ok3 (Or.inl (tw 311 rfl rfl)) (congrArg Value.int (hD _).1) ?_
          exact am_iret (am_at hc_M_fault 187 rfl) rfl rfl ⟨rfl, rfl, by rw [← he, nI_zI], _, rfl, fun z => absurd z (by rw [← he]; show ¬ (n : Int) = -1; omega)⟩
        · have h4 : 4 ≤ st := Nat.not_lt.mp (fun z => q3 ((nI_ltI (b := 4) (by omega) (by decide)).mpr z))
          refine am_go cd_M_fault hc_M_fault 180 2 (pc' := 342) (L' := [some (.ref 40), some (.int (nI st)), some (.int (nI ms)), some (.int (nI dp)), some (.int (nI i)), none, none, none]) (st' := [.int 6, .int (nI st)]) rfl ?_
          refine am_icmp_eq 349 (am_at hc_M_fault 182 rfl) (by decide) (fun q4 => ?_) (fun q4 => ?_)
          · have h6 : st = 6 := (nI_eq (b := 6) (by omega) (by decide)).mp q4
            rw [if_neg (fun z => by omega)] at he
            refine am_go cd_M_fault hc_M_fault 185 1 (pc' := 350) (L' := [some (.ref 40), some (.int (nI st)), some (.int (nI ms)), some (.int (nI dp)), some (.int (nI i)), none, none, none]) (st' := [.ref 40]) rfl ?_
            refine am_getf 3 5 k_r3 (am_at hc_M_fault 186 rfl) rfl (by decide) rfl (by decide) k_ok3 (Or.inl (tw 311 rfl rfl)) (congrArg Value.int (hD _).1) ?_
            exact am_iret (am_at hc_M_fault 187 rfl) rfl rfl ⟨rfl, rfl, by rw [← he, nI_zI], _, rfl, fun z => absurd z (by rw [← he]; show ¬ (n : Int) = -1; omega)⟩
          · have h6 : st ≠ 6 := fun z => q4 (by rw [z]; rfl)
            rw [if_pos ⟨hd0, h4, h6⟩] at he
            refine am_go cd_M_fault hc_M_fault 183 2 (pc' := 353) (L' := [some (.ref 40), some (.int (nI st)), some (.int (nI ms)), some (.int (nI dp)), some (.int (nI i)), none, none, none]) (st' := [.int (-1)]) rfl ?_
            exact am_iret (am_at hc_M_fault 187 rfl) rfl rfl ⟨rfl, rfl, by rw [← he]; rfl, _, rfl, fun _ => by rw [← he]⟩
    | succ k ih =>
      intro i st ms dp fd hi hst hms hdp hfd he
      have hin : i < n := by omega
      have hT := (hr.2.2 i hin).1
      have hT2 := (hr.2.2 i hin).2
      have hT' : ∀ v, am_u d 40 15 v 44 i = nI (T i) := fun v => by rw [am_u_ne 44 (by decide)]; exact hT
      have chkN : ∀ (r : Nat × Nat × Nat × Nat), au_nx T n i st ms dp fd = some r → r.1 ≤ 9 → r.2.1 < 64 → (r.2.2.2 ≤ 12 → r.2.2.1 ≤ 8) → r.2.2.2 ≤ 13 → cW l x (e + 1) L m_M_fault 304 [some (.ref 40), none, some (.int (nI r.2.1)), some (.int (nI r.2.2.1)), some (.int (nI i)), none, some (.int (nI r.1)), none] [] (am_u d 40 15 (nI r.2.2.2)) (fun r d' => r = some (.int (zI RR.1)) ∧ ∃ v, d' = am_u d 40 15 v ∧ (RR.1 = -1 → v = nI RR.2)) := by
        intro r hx h1 h2 h3 h4
        rw [au_run_some hx] at he
        refine am_go cd_M_fault hc_M_fault 163 1 (pc' := 306) (L' := [some (.ref 40), none, some (.int (nI r.2.1)), some (.int (nI r.2.2.1)), some (.int (nI i)), none, some (.int (nI r.1)), none]) (st' := [.int (nI r.1)]) rfl ?_
        refine am_if_lt 318 (am_at hc_M_fault 164 rfl) (by decide) (fun q1 => absurd q1 (nI_pos (by omega))) (fun q1 => ?_)
        refine am_go cd_M_fault hc_M_fault 165 1 (pc' := 310) (L' := [some (.ref 40), none, some (.int (nI r.2.1)), some (.int (nI r.2.2.1)), some (.int (nI i)), none, some (.int (nI r.1)), none]) (st' := [.ref 40]) rfl ?_
        refine am_getf 3 15 k_r3 (am_at hc_M_fault 166 rfl) rfl (by decide) rfl (by decide) k_ok3 (Or.inl (tw 321 rfl rfl)) (congrArg Value.int am_u_i) ?_
        refine am_go cd_M_fault hc_M_fault 167 1 (pc' := 315) (L' := [some (.ref 40), none, some (.int (nI r.2.1)), some (.int (nI r.2.2.1)), some (.int (nI i)), none, some (.int (nI r.1)), none]) (st' := [.int 12, .int (nI r.2.2.2)]) rfl ?_
        refine am_icmp_le 321 (am_at hc_M_fault 168 rfl) (by decide) (fun q2 => ?_) (fun q2 => ?_)
        · have h5 : r.2.2.2 ≤ 12 := (nI_leI (b := 12) (by omega) (by decide)).mp q2
          rw [if_neg (by omega)] at he
          refine am_go cd_M_fault hc_M_fault 171 4 (pc' := 14) (L' := [some (.ref 40), some (.int (nI r.1)), some (.int (nI r.2.1)), some (.int (nI r.2.2.1)), some (.int (nI i + 1)), none, some (.int (nI r.1)), none]) (st' := []) rfl ?_
          refine am_weak (L' := [some (.ref 40), some (.int (nI r.1)), some (.int (nI r.2.1)), some (.int (nI r.2.2.1)), some (.int (nI i + 1)), none, none, none]) ⟨rfl, rfl, rfl, rfl, rfl, trivial⟩ ?_
          rw [nI_1]
          exact ih (i + 1) r.1 r.2.1 r.2.2.1 r.2.2.2 (by omega) h1 h2 (h3 h5) h5 he
        · have h5 : ¬ r.2.2.2 ≤ 12 := fun z => q2 ((nI_leI (b := 12) (by omega) (by decide)).mpr z)
          rw [if_pos (by omega)] at he
          refine am_go cd_M_fault hc_M_fault 169 1 (pc' := 320) (L' := [some (.ref 40), none, some (.int (nI r.2.1)), some (.int (nI r.2.2.1)), some (.int (nI i)), none, some (.int (nI r.1)), none]) (st' := [.int (nI i)]) rfl ?_
          refine am_iret (am_at hc_M_fault 170 rfl) rfl rfl ⟨rfl, rfl, by rw [← he, nI_zI], _, rfl, fun z => ?_⟩
          rw [← he] at z; exact absurd z (by show ¬ (i : Int) = -1; omega)
      refine am_go cd_M_fault hc_M_fault 11 2 (pc' := 17) (L' := [some (.ref 40), some (.int (nI st)), some (.int (nI ms)), some (.int (nI dp)), some (.int (nI i)), none, none, none]) (st' := [.ref 40, .int (nI i)]) rfl ?_
      refine am_getf 3 5 k_r3 (am_at hc_M_fault 13 rfl) rfl (by decide) rfl (by decide) k_ok3 (Or.inl (tw 311 rfl rfl)) (congrArg Value.int (hD _).1) ?_
      refine am_icmp_ge 330 (am_at hc_M_fault 14 rfl) (by decide) (fun q0 => absurd q0 (nI_ge (by omega) (by omega))) (fun q0 => ?_)
      refine am_go cd_M_fault hc_M_fault 15 1 (pc' := 24) (L' := [some (.ref 40), some (.int (nI st)), some (.int (nI ms)), some (.int (nI dp)), some (.int (nI i)), none, none, none]) (st' := [.ref 40]) rfl ?_
      refine am_getf 3 6 k_r3 (am_at hc_M_fault 16 rfl) rfl (by decide) rfl (by decide) k_ok3 (Or.inl (tw 312 rfl rfl)) rfl ?_
      refine am_go cd_M_fault hc_M_fault 17 1 (pc' := 29) (L' := [some (.ref 40), some (.int (nI st)), some (.int (nI ms)), some (.int (nI dp)), some (.int (nI i)), none, none, none]) (st' := [.int (nI i), .ref 44]) rfl ?_
      refine am_iaload (i) (am_at hc_M_fault 18 rfl) rfl (Or.inl (by decide)) rfl (by show i < 40; omega) (Nat.le_of_ble_eq_true rfl) ?_
      rw [show am_u d 40 15 (nI fd) 44 i = nI (T i) from hT' _]
      refine am_go cd_M_fault hc_M_fault 19 4 (pc' := 36) (L' := [some (.ref 40), some (.int (nI st)), some (.int (nI ms)), some (.int (nI dp)), some (.int (nI i)), some (.int (nI (T i))), some (.int (-1)), none]) (st' := [.int (nI st)]) rfl ?_
      refine am_if_ne 118 (am_at hc_M_fault 23 rfl) (by decide) (fun q1 => ?_) (fun q1 => ?_)
      · have hs0 : ¬ st = 0 := fun z => q1 (by rw [z]; rfl)
        refine am_go cd_M_fault hc_M_fault 65 2 (pc' := 121) (L' := [some (.ref 40), some (.int (nI st)), some (.int (nI ms)), some (.int (nI dp)), some (.int (nI i)), some (.int (nI (T i))), some (.int (-1)), none]) (st' := [.int (nI i), .ref 40]) rfl ?_
        refine cW.callV1 124 [.int (bI (pr_dg T n i))] (st := []) [.int (nI i)] (am_at hc_M_fault 67 rfl) g_M_digit (Or.inl (tw 401 rfl rfl)) (tw 403 rfl rfl) (tp 20 rfl rfl) 3 k_r3 rfl (by decide) rfl rfl rfl rfl (Nat.le_of_ble_eq_true rfl) (c_M_digit (hD _) (by omega)) rfl rfl ?_
        cases hdg : pr_dg T n i with
        | true =>
          simp only [bI_t]
          refine am_if_eq 161 (am_at hc_M_fault 68 rfl) (by decide) (fun q2 => absurd q2 (by decide)) (fun q2 => ?_)
          refine am_go cd_M_fault hc_M_fault 69 2 (pc' := 129) (L' := [some (.ref 40), some (.int (nI st)), some (.int (nI ms)), some (.int (nI dp)), some (.int (nI i)), some (.int (nI (T i))), some (.int (-1)), none]) (st' := [.int 1, .int (nI st)]) rfl ?_
          refine am_icmp_eq 149 (am_at hc_M_fault 71 rfl) (by decide) (fun q3 => ?_) (fun q3 => ?_)
          · have z : st = 1 := (nI_eq (b := 1) (by omega) (by decide)).mp q3
            refine am_go cd_M_fault hc_M_fault 81 4 (pc' := 156) (L' := [some (.ref 40), some (.int (nI st)), some (.int (nI ms)), some (.int (nI dp)), some (.int (nI i)), some (.int (nI (T i))), some (.int (-1)), none]) (st' := [.int (nI st + 1)]) rfl ?_
            refine am_go cd_M_fault hc_M_fault 86 2 (pc' := 304) (L' := [some (.ref 40), some (.int (nI st)), some (.int (nI ms)), some (.int (nI dp)), some (.int (nI i)), some (.int (nI (T i))), some (.int (nI st + 1)), none]) (st' := []) rfl ?_
            rw [show nI st + 1 = nI (st + 1) from nI_1 _]
            have hx : au_nx T n i st ms dp fd = some (st + 1, ms, dp, fd) := by unfold au_nx; rw [if_neg hs0, if_pos hdg, if_pos (by omega)]
            refine am_weak (L' := [some (.ref 40), none, some (.int (nI ms)), some (.int (nI dp)), some (.int (nI i)), none, some (.int (nI (st + 1))), none]) ⟨rfl, rfl, rfl, rfl, rfl, trivial⟩ ?_
            exact chkN (st + 1, ms, dp, fd) hx (by dsimp only; omega) (by dsimp only; omega) (fun _ => by dsimp only; omega) (by dsimp only; omega)
          · have n1 : st ≠ 1 := fun z => q3 (by rw [z]; rfl)
            refine am_go cd_M_fault hc_M_fault 72 2 (pc' := 134) (L' := [some (.ref 40), some (.int (nI st)), some (.int (nI ms)), some (.int (nI dp)), some (.int (nI i)), some (.int (nI (T i))), some (.int (-1)), none]) (st' := [.int 2, .int (nI st)]) rfl ?_
            refine am_icmp_eq 149 (am_at hc_M_fault 74 rfl) (by decide) (fun q4 => ?_) (fun q4 => ?_)
            · have z : st = 2 := (nI_eq (b := 2) (by omega) (by decide)).mp q4
              refine am_go cd_M_fault hc_M_fault 81 4 (pc' := 156) (L' := [some (.ref 40), some (.int (nI st)), some (.int (nI ms)), some (.int (nI dp)), some (.int (nI i)), some (.int (nI (T i))), some (.int (-1)), none]) (st' := [.int (nI st + 1)]) rfl ?_
              refine am_go cd_M_fault hc_M_fault 86 2 (pc' := 304) (L' := [some (.ref 40), some (.int (nI st)), some (.int (nI ms)), some (.int (nI dp)), some (.int (nI i)), some (.int (nI (T i))), some (.int (nI st + 1)), none]) (st' := []) rfl ?_
              rw [show nI st + 1 = nI (st + 1) from nI_1 _]
              have hx : au_nx T n i st ms dp fd = some (st + 1, ms, dp, fd) := by unfold au_nx; rw [if_neg hs0, if_pos hdg, if_pos (by omega)]
              refine am_weak (L' := [some (.ref 40), none, some (.int (nI ms)), some (.int (nI dp)), some (.int (nI i)), none, some (.int (nI (st + 1))), none]) ⟨rfl, rfl, rfl, rfl, rfl, trivial⟩ ?_
              exact chkN (st + 1, ms, dp, fd) hx (by dsimp only; omega) (by dsimp only; omega) (fun _ => by dsimp only; omega) (by dsimp only; omega)
            · have n2 : st ≠ 2 := fun z => q4 (by rw [z]; rfl)
              refine am_go cd_M_fault hc_M_fault 75 2 (pc' := 140) (L' := [some (.ref 40), some (.int (nI st)), some (.int (nI ms)), some (.int (nI dp)), some (.int (nI i)), some (.int (nI (T i))), some (.int (-1)), none]) (st' := [.int 6, .int (nI st)]) rfl ?_
              refine am_icmp_lt 155 (am_at hc_M_fault 77 rfl) (by decide) (fun q5 => ?_) (fun q5 => ?_)
              · have z : st < 6 := (nI_ltI (b := 6) (by omega) (by decide)).mp q5
                refine am_go cd_M_fault hc_M_fault 85 3 (pc' := 304) (L' := [some (.ref 40), some (.int (nI st)), some (.int (nI ms)), some (.int (nI dp)), some (.int (nI i)), some (.int (nI (T i))), some (.int (-1)), none]) (st' := []) rfl ?_
                have hx : au_nx T n i st ms dp fd = none := by unfold au_nx; rw [if_neg hs0, if_pos hdg, if_neg (by omega)]
                rw [au_run_none hx] at he
                refine am_weak (L' := [some (.ref 40), none, none, none, some (.int (nI i)), none, some (.int (-1)), none]) ⟨rfl, rfl, rfl, trivial⟩ ?_
                exact chkF i _ he
              · have n6 : 6 ≤ st := Nat.not_lt.mp (fun z => q5 ((nI_ltI (b := 6) (by omega) (by decide)).mpr z))
                refine am_go cd_M_fault hc_M_fault 78 2 (pc' := 146) (L' := [some (.ref 40), some (.int (nI st)), some (.int (nI ms)), some (.int (nI dp)), some (.int (nI i)), some (.int (nI (T i))), some (.int (-1)), none]) (st' := [.int 8, .int (nI st)]) rfl ?_
                refine am_icmp_gt 155 (am_at hc_M_fault 80 rfl) (by decide) (fun q6 => ?_) (fun q6 => ?_)
                · have z : 8 < st := (nI_ltI (a := 8) (by decide) (by omega)).mp q6
                  refine am_go cd_M_fault hc_M_fault 85 3 (pc' := 304) (L' := [some (.ref 40), some (.int (nI st)), some (.int (nI ms)), some (.int (nI dp)), some (.int (nI i)), some (.int (nI (T i))), some (.int (-1)), none]) (st' := []) rfl ?_
                  have hx : au_nx T n i st ms dp fd = none := by unfold au_nx; rw [if_neg hs0, if_pos hdg, if_neg (by omega)]
                  rw [au_run_none hx] at he
                  refine am_weak (L' := [some (.ref 40), none, none, none, some (.int (nI i)), none, some (.int (-1)), none]) ⟨rfl, rfl, rfl, trivial⟩ ?_
                  exact chkF i _ he
                · have z : st ≤ 8 := Nat.not_lt.mp (fun z => q6 ((nI_ltI (a := 8) (by decide) (by omega)).mpr z))
                  refine am_go cd_M_fault hc_M_fault 81 4 (pc' := 156) (L' := [some (.ref 40), some (.int (nI st)), some (.int (nI ms)), some (.int (nI dp)), some (.int (nI i)), some (.int (nI (T i))), some (.int (-1)), none]) (st' := [.int (nI st + 1)]) rfl ?_
                  refine am_go cd_M_fault hc_M_fault 86 2 (pc' := 304) (L' := [some (.ref 40), some (.int (nI st)), some (.int (nI ms)), some (.int (nI dp)), some (.int (nI i)), some (.int (nI (T i))), some (.int (nI st + 1)), none]) (st' := []) rfl ?_
                  rw [show nI st + 1 = nI (st + 1) from nI_1 _]
                  have hx : au_nx T n i st ms dp fd = some (st + 1, ms, dp, fd) := by unfold au_nx; rw [if_neg hs0, if_pos hdg, if_pos (by omega)]
                  refine am_weak (L' := [some (.ref 40), none, some (.int (nI ms)), some (.int (nI dp)), some (.int (nI i)), none, some (.int (nI (st + 1))), none]) ⟨rfl, rfl, rfl, rfl, rfl, trivial⟩ ?_
                  exact chkN (st + 1, ms, dp, fd) hx (by dsimp only; omega) (by dsimp only; omega) (fun _ => by dsimp only; omega) (by dsimp only; omega)
        | false =>
          simp only [bI_f]
          refine am_if_eq 161 (am_at hc_M_fault 68 rfl) (by decide) (fun q2 => ?_) (fun q2 => absurd rfl q2)
          refine am_go cd_M_fault hc_M_fault 88 2 (pc' := 164) (L' := [some (.ref 40), some (.int (nI st)), some (.int (nI ms)), some (.int (nI dp)), some (.int (nI i)), some (.int (nI (T i))), some (.int (-1)), none]) (st' := [.int (nI i), .ref 40]) rfl ?_
          refine cW.callV1 167 [.int (bI (pr_lt T n i))] (st := []) [.int (nI i)] (am_at hc_M_fault 90 rfl) g_M_letter (Or.inl (tw 405 rfl rfl)) (tw 407 rfl rfl) (tp 21 rfl rfl) 3 k_r3 rfl (by decide) rfl rfl rfl rfl (Nat.le_of_ble_eq_true rfl) (c_M_letter (hD _) (by omega)) rfl rfl ?_
          have hdn : ¬ pr_dg T n i = true := by rw [hdg]; decide
          cases hlt : pr_lt T n i with
          | true =>
            simp only [bI_t]
            obtain ⟨z1, z2, z3⟩ := pr_lt_lt hlt
            have hbit := let_bit ms hms (T i - 97) (by omega)
            refine am_if_eq 206 (am_at hc_M_fault 91 rfl) (by decide) (fun q3 => absurd q3 (by decide)) (fun q3 => ?_)
            refine am_go cd_M_fault hc_M_fault 92 5 (pc' := 177) (L' := [some (.ref 40), some (.int (nI st)), some (.int (nI ms)), some (.int (nI dp)), some (.int (nI i)), some (.int (nI (T i))), some (.int (-1)), none]) (st' := [.int (1 <<< ((nI (T i) - 97) &&& 31))]) rfl ?_
            rw [nI_sh (T i) z2 z3]
            refine am_go cd_M_fault hc_M_fault 97 3 (pc' := 181) (L' := [some (.ref 40), some (.int (nI st)), some (.int (nI ms)), some (.int (nI dp)), some (.int (nI i)), some (.int (nI (T i))), some (.int (-1)), some (.int (nI (2 ^ (T i - 97))))]) (st' := [.int 4, .int (nI st)]) rfl ?_
            refine am_icmp_gt 195 (am_at hc_M_fault 100 rfl) (by decide) (fun q4 => ?_) (fun q4 => ?_)
            · have z : 4 < st := (nI_ltI (a := 4) (by decide) (by omega)).mp q4
              refine am_go cd_M_fault hc_M_fault 107 7 (pc' := 304) (L' := [some (.ref 40), some (.int (nI st)), some (.int (nI ms ||| nI (2 ^ (T i - 97)))), some (.int (nI dp)), some (.int (nI i)), some (.int (nI (T i))), some (.int (-1)), some (.int (nI (2 ^ (T i - 97))))]) (st' := []) rfl ?_
              have hx : au_nx T n i st ms dp fd = none := by unfold au_nx; rw [if_neg hs0, if_neg hdn, if_pos hlt, if_neg (by omega)]
              rw [au_run_none hx] at he
              refine am_weak (L' := [some (.ref 40), none, none, none, some (.int (nI i)), none, some (.int (-1)), none]) ⟨rfl, rfl, rfl, trivial⟩ ?_
              exact chkF i _ he
            · have z : st ≤ 4 := Nat.not_lt.mp (fun z => q4 ((nI_ltI (a := 4) (by decide) (by omega)).mpr z))
              refine am_go cd_M_fault hc_M_fault 101 3 (pc' := 188) (L' := [some (.ref 40), some (.int (nI st)), some (.int (nI ms)), some (.int (nI dp)), some (.int (nI i)), some (.int (nI (T i))), some (.int (-1)), some (.int (nI (2 ^ (T i - 97))))]) (st' := [.int (nI ms &&& nI (2 ^ (T i - 97)))]) rfl ?_
              rw [show nI ms &&& nI (2 ^ (T i - 97)) = nI (ms &&& 2 ^ (T i - 97)) from nI_and _ _]
              have hle : ms &&& 2 ^ (T i - 97) ≤ ms := Nat.and_le_left
              refine am_if_ne 195 (am_at hc_M_fault 104 rfl) (by decide) (fun q5 => ?_) (fun q5 => ?_)
              · have z4 : ¬ (ms.testBit (T i - 97) = false) := fun z => q5 (by rw [hbit.1.mpr z]; rfl)
                refine am_go cd_M_fault hc_M_fault 107 7 (pc' := 304) (L' := [some (.ref 40), some (.int (nI st)), some (.int (nI ms ||| nI (2 ^ (T i - 97)))), some (.int (nI dp)), some (.int (nI i)), some (.int (nI (T i))), some (.int (-1)), some (.int (nI (2 ^ (T i - 97))))]) (st' := []) rfl ?_
                have hx : au_nx T n i st ms dp fd = none := by unfold au_nx; rw [if_neg hs0, if_neg hdn, if_pos hlt, if_neg (fun z => z4 z.2)]
                rw [au_run_none hx] at he
                refine am_weak (L' := [some (.ref 40), none, none, none, some (.int (nI i)), none, some (.int (-1)), none]) ⟨rfl, rfl, rfl, trivial⟩ ?_
                exact chkF i _ he
              · have z4 : ms &&& 2 ^ (T i - 97) = 0 := (nI_eq (b := 0) (by omega) (by decide)).mp q5
                refine am_go cd_M_fault hc_M_fault 105 2 (pc' := 196) (L' := [some (.ref 40), some (.int (nI st)), some (.int (nI ms)), some (.int (nI dp)), some (.int (nI i)), some (.int (nI (T i))), some (.int (-1)), some (.int (nI (2 ^ (T i - 97))))]) (st' := [.int 4]) rfl ?_
                refine am_go cd_M_fault hc_M_fault 108 6 (pc' := 304) (L' := [some (.ref 40), some (.int (nI st)), some (.int (nI ms ||| nI (2 ^ (T i - 97)))), some (.int (nI dp)), some (.int (nI i)), some (.int (nI (T i))), some (.int 4), some (.int (nI (2 ^ (T i - 97))))]) (st' := []) rfl ?_
                rw [show nI ms ||| nI (2 ^ (T i - 97)) = nI (ms ||| 2 ^ (T i - 97)) from nI_or _ _]
                have hx : au_nx T n i st ms dp fd = some (4, ms ||| 2 ^ (T i - 97), dp, fd) := by unfold au_nx; rw [if_neg hs0, if_neg hdn, if_pos hlt, if_pos ⟨z, hbit.1.mp z4⟩]
                refine am_weak (L' := [some (.ref 40), none, some (.int (nI (ms ||| 2 ^ (T i - 97)))), some (.int (nI dp)), some (.int (nI i)), none, some (.int 4), none]) ⟨rfl, rfl, rfl, rfl, rfl, trivial⟩ ?_
                exact chkN (4, ms ||| 2 ^ (T i - 97), dp, fd) hx (by dsimp only; omega) hbit.2 (fun _ => by dsimp only; omega) (by dsimp only; omega)
          | false =>
            have hln : ¬ pr_lt T n i = true := by rw [hlt]; decide
            simp only [bI_f]
            refine am_if_eq 206 (am_at hc_M_fault 91 rfl) (by decide) (fun q3 => ?_) (fun q3 => absurd rfl q3)
            refine am_go cd_M_fault hc_M_fault 114 2 (pc' := 208) (L' := [some (.ref 40), some (.int (nI st)), some (.int (nI ms)), some (.int (nI dp)), some (.int (nI i)), some (.int (nI (T i))), some (.int (-1)), none]) (st' := [.int 4, .int (nI st)]) rfl ?_
            refine am_icmp_lt 304 (am_at hc_M_fault 116 rfl) (by decide) (fun q4 => ?_) (fun q4 => ?_)
            · have z : st < 4 := (nI_ltI (b := 4) (by omega) (by decide)).mp q4
              have hx : au_nx T n i st ms dp fd = none := by unfold au_nx; rw [if_neg hs0, if_neg hdn, if_neg hln, if_neg (by omega)]
              rw [au_run_none hx] at he
              refine am_weak (L' := [some (.ref 40), none, none, none, some (.int (nI i)), none, some (.int (-1)), none]) ⟨rfl, rfl, rfl, trivial⟩ ?_
              exact chkF i _ he
            · have g4 : 4 ≤ st := Nat.not_lt.mp (fun z => q4 ((nI_ltI (b := 4) (by omega) (by decide)).mpr z))
              refine am_go cd_M_fault hc_M_fault 117 2 (pc' := 214) (L' := [some (.ref 40), some (.int (nI st)), some (.int (nI ms)), some (.int (nI dp)), some (.int (nI i)), some (.int (nI (T i))), some (.int (-1)), none]) (st' := [.int 6, .int (nI st)]) rfl ?_
              refine am_icmp_eq 304 (am_at hc_M_fault 119 rfl) (by decide) (fun q5 => ?_) (fun q5 => ?_)
              · have z : st = 6 := (nI_eq (b := 6) (by omega) (by decide)).mp q5
                have hx : au_nx T n i st ms dp fd = none := by unfold au_nx; rw [if_neg hs0, if_neg hdn, if_neg hln, if_neg (by omega)]
                rw [au_run_none hx] at he
                refine am_weak (L' := [some (.ref 40), none, none, none, some (.int (nI i)), none, some (.int (-1)), none]) ⟨rfl, rfl, rfl, trivial⟩ ?_
                exact chkF i _ he
              · have g6 : st ≠ 6 := fun z => q5 (by rw [z]; rfl)
                refine am_go cd_M_fault hc_M_fault 120 2 (pc' := 221) (L' := [some (.ref 40), some (.int (nI st)), some (.int (nI ms)), some (.int (nI dp)), some (.int (nI i)), some (.int (nI (T i))), some (.int (-1)), none]) (st' := [.int 43, .int (nI (T i))]) rfl ?_
                refine am_icmp_eq 231 (am_at hc_M_fault 122 rfl) (by decide) (fun q6 => ?_) (fun q6 => ?_)
                · have z : T i = 43 := (nI_eq (b := 43) (by omega) (by decide)).mp q6
                  refine am_go cd_M_fault hc_M_fault 126 2 (pc' := 263) (L' := [some (.ref 40), some (.int (nI st)), some (.int (nI ms)), some (.int (nI dp)), some (.int (nI i)), some (.int (nI (T i))), some (.int (-1)), none]) (st' := [.int 0]) rfl ?_
                  refine am_go cd_M_fault hc_M_fault 141 3 (pc' := 269) (L' := [some (.ref 40), some (.int (nI st)), some (.int (nI ms)), some (.int (nI dp)), some (.int (nI i)), some (.int (nI (T i))), some (.int 0), none]) (st' := [.int 41, .int (nI (T i))]) rfl ?_
                  refine am_icmp_ne 278 (am_at hc_M_fault 144 rfl) (by decide) (fun qa => ?_) (fun qa => absurd qa (fun z => by have := (nI_eq (b := 41) (by omega) (by decide)).mp z; omega))
                  refine am_go cd_M_fault hc_M_fault 149 5 (pc' := 285) (L' := [some (.ref 40), some (.int (nI st)), some (.int (nI ms)), some (.int (nI dp)), some (.int (nI i)), some (.int (nI (T i))), some (.int 0), none]) (st' := [.int 41, .int (nI (T i)), .ref 40]) rfl ?_
                  refine am_icmp_ne 295 (am_at hc_M_fault 154 rfl) (by decide) (fun qb => ?_) (fun qb => absurd qb (fun z => by have := (nI_eq (b := 41) (by omega) (by decide)).mp z; omega))
                  refine am_go cd_M_fault hc_M_fault 158 1 (pc' := 296) (L' := [some (.ref 40), some (.int (nI st)), some (.int (nI ms)), some (.int (nI dp)), some (.int (nI i)), some (.int (nI (T i))), some (.int 0), none]) (st' := [.ref 40, .ref 40]) rfl ?_
                  refine am_getf 3 15 k_r3 (am_at hc_M_fault 159 rfl) rfl (by decide) rfl (by decide) k_ok3 (Or.inl (tw 321 rfl rfl)) (congrArg Value.int am_u_i) ?_
                  refine am_go cd_M_fault hc_M_fault 160 2 (pc' := 301) (L' := [some (.ref 40), some (.int (nI st)), some (.int (nI ms)), some (.int (nI dp)), some (.int (nI i)), some (.int (nI (T i))), some (.int 0), none]) (st' := [.int (nI fd + 1), .ref 40]) rfl ?_
                  rw [show nI fd + 1 = nI (fd + 1) from nI_1 _]
                  refine am_putI 3 15 k_r3 (am_at hc_M_fault 162 rfl) rfl (by decide) rfl (by decide) k_ok3 (tw 321 rfl rfl) rfl rfl rfl rfl ?_
                  rw [am_uu]
                  have hx : au_nx T n i st ms dp fd = some (0, ms, dp, fd + 1) := by unfold au_nx; rw [if_neg hs0, if_neg hdn, if_neg hln, if_pos ⟨g4, g6⟩, if_pos (by omega)]
                  refine am_weak (L' := [some (.ref 40), none, some (.int (nI ms)), some (.int (nI dp)), some (.int (nI i)), none, some (.int 0), none]) ⟨rfl, rfl, rfl, rfl, rfl, trivial⟩ ?_
                  exact chkN (0, ms, dp, fd + 1) hx (by dsimp only; omega) (by dsimp only; omega) (fun _ => by dsimp only; omega) (by dsimp only; omega)
                · have c43 : T i ≠ 43 := fun z => q6 (by rw [z]; rfl)
                  refine am_go cd_M_fault hc_M_fault 123 2 (pc' := 228) (L' := [some (.ref 40), some (.int (nI st)), some (.int (nI ms)), some (.int (nI dp)), some (.int (nI i)), some (.int (nI (T i))), some (.int (-1)), none]) (st' := [.int 94, .int (nI (T i))]) rfl ?_
                  refine am_icmp_ne 235 (am_at hc_M_fault 125 rfl) (by decide) (fun q7 => ?_) (fun q7 => ?_)
                  · have c94 : T i ≠ 94 := fun z => q7 (by rw [z]; rfl)
                    refine am_go cd_M_fault hc_M_fault 128 2 (pc' := 239) (L' := [some (.ref 40), some (.int (nI st)), some (.int (nI ms)), some (.int (nI dp)), some (.int (nI i)), some (.int (nI (T i))), some (.int (-1)), none]) (st' := [.int 60, .int (nI (T i))]) rfl ?_
                    refine am_icmp_ne 247 (am_at hc_M_fault 130 rfl) (by decide) (fun q8 => ?_) (fun q8 => ?_)
                    · have c60 : T i ≠ 60 := fun z => q8 (by rw [z]; rfl)
                      refine am_go cd_M_fault hc_M_fault 133 2 (pc' := 251) (L' := [some (.ref 40), some (.int (nI st)), some (.int (nI ms)), some (.int (nI dp)), some (.int (nI i)), some (.int (nI (T i))), some (.int (-1)), none]) (st' := [.int 41, .int (nI (T i))]) rfl ?_
                      refine am_icmp_ne 262 (am_at hc_M_fault 135 rfl) (by decide) (fun q9 => ?_) (fun q9 => ?_)
                      · have c41 : T i ≠ 41 := fun z => q9 (by rw [z]; rfl)
                        refine am_go cd_M_fault hc_M_fault 140 4 (pc' := 269) (L' := [some (.ref 40), some (.int (nI st)), some (.int (nI ms)), some (.int (nI dp)), some (.int (nI i)), some (.int (nI (T i))), some (.int (-1)), none]) (st' := [.int 41, .int (nI (T i))]) rfl ?_
                        refine am_icmp_ne 278 (am_at hc_M_fault 144 rfl) (by decide) (fun qa => ?_) (fun qa => absurd qa (fun z => c41 ((nI_eq (b := 41) (by omega) (by decide)).mp z)))
                        refine am_go cd_M_fault hc_M_fault 149 5 (pc' := 285) (L' := [some (.ref 40), some (.int (nI st)), some (.int (nI ms)), some (.int (nI dp)), some (.int (nI i)), some (.int (nI (T i))), some (.int (-1)), none]) (st' := [.int 41, .int (nI (T i)), .ref 40]) rfl ?_
                        refine am_icmp_ne 295 (am_at hc_M_fault 154 rfl) (by decide) (fun qb => ?_) (fun qb => absurd qb (fun z => c41 ((nI_eq (b := 41) (by omega) (by decide)).mp z)))
                        refine am_go cd_M_fault hc_M_fault 158 1 (pc' := 296) (L' := [some (.ref 40), some (.int (nI st)), some (.int (nI ms)), some (.int (nI dp)), some (.int (nI i)), some (.int (nI (T i))), some (.int (-1)), none]) (st' := [.ref 40, .ref 40]) rfl ?_
                        refine am_getf 3 15 k_r3 (am_at hc_M_fault 159 rfl) rfl (by decide) rfl (by decide) k_ok3 (Or.inl (tw 321 rfl rfl)) (congrArg Value.int am_u_i) ?_
                        refine am_go cd_M_fault hc_M_fault 160 2 (pc' := 301) (L' := [some (.ref 40), some (.int (nI st)), some (.int (nI ms)), some (.int (nI dp)), some (.int (nI i)), some (.int (nI (T i))), some (.int (-1)), none]) (st' := [.int (nI fd + 1), .ref 40]) rfl ?_
                        refine am_putI 3 15 k_r3 (am_at hc_M_fault 162 rfl) rfl (by decide) rfl (by decide) k_ok3 (tw 321 rfl rfl) rfl rfl rfl rfl ?_
                        rw [am_uu]
                        have hx : au_nx T n i st ms dp fd = none := by unfold au_nx; rw [if_neg hs0, if_neg hdn, if_neg hln, if_pos ⟨g4, g6⟩, if_neg (by omega), if_neg c60, if_neg (fun z => c41 z.1)]
                        rw [au_run_none hx] at he
                        refine am_weak (L' := [some (.ref 40), none, none, none, some (.int (nI i)), none, some (.int (-1)), none]) ⟨rfl, rfl, rfl, trivial⟩ ?_
                        exact chkF i _ he
                      · have c41 : T i = 41 := (nI_eq (b := 41) (by omega) (by decide)).mp q9
                        refine am_go cd_M_fault hc_M_fault 136 1 (pc' := 255) (L' := [some (.ref 40), some (.int (nI st)), some (.int (nI ms)), some (.int (nI dp)), some (.int (nI i)), some (.int (nI (T i))), some (.int (-1)), none]) (st' := [.int (nI dp)]) rfl ?_
                        refine am_if_le 262 (am_at hc_M_fault 137 rfl) (by decide) (fun qc => ?_) (fun qc => ?_)
                        · have d0 : dp = 0 := by by_cases z : dp = 0; exact z; exact absurd qc (nI_nle (by omega) (by omega))
                          refine am_go cd_M_fault hc_M_fault 140 4 (pc' := 269) (L' := [some (.ref 40), some (.int (nI st)), some (.int (nI ms)), some (.int (nI dp)), some (.int (nI i)), some (.int (nI (T i))), some (.int (-1)), none]) (st' := [.int 41, .int (nI (T i))]) rfl ?_
                          refine am_icmp_ne 278 (am_at hc_M_fault 144 rfl) (by decide) (fun qa => absurd qa (fun z => z (by rw [c41]; rfl))) (fun qa => ?_)
                          refine am_go cd_M_fault hc_M_fault 145 4 (pc' := 279) (L' := [some (.ref 40), some (.int (nI st)), some (.int (nI ms)), some (.int (nI dp)), some (.int (nI i)), some (.int (nI (T i))), some (.int (-1)), none]) (st' := [.int (nI dp - 1)]) rfl ?_
                          refine am_go cd_M_fault hc_M_fault 150 4 (pc' := 285) (L' := [some (.ref 40), some (.int (nI st)), some (.int (nI ms)), some (.int (nI dp - 1)), some (.int (nI i)), some (.int (nI (T i))), some (.int (-1)), none]) (st' := [.int 41, .int (nI (T i)), .ref 40]) rfl ?_
                          refine am_icmp_ne 295 (am_at hc_M_fault 154 rfl) (by decide) (fun qb => absurd qb (fun z => z (by rw [c41]; rfl))) (fun qb => ?_)
                          refine am_go cd_M_fault hc_M_fault 155 1 (pc' := 289) (L' := [some (.ref 40), some (.int (nI st)), some (.int (nI ms)), some (.int (nI dp - 1)), some (.int (nI i)), some (.int (nI (T i))), some (.int (-1)), none]) (st' := [.ref 40, .ref 40]) rfl ?_
                          refine am_getf 3 15 k_r3 (am_at hc_M_fault 156 rfl) rfl (by decide) rfl (by decide) k_ok3 (Or.inl (tw 321 rfl rfl)) (congrArg Value.int am_u_i) ?_
                          refine am_go cd_M_fault hc_M_fault 157 1 (pc' := 301) (L' := [some (.ref 40), some (.int (nI st)), some (.int (nI ms)), some (.int (nI dp - 1)), some (.int (nI i)), some (.int (nI (T i))), some (.int (-1)), none]) (st' := [.int (nI fd), .ref 40]) rfl ?_
                          refine am_putI 3 15 k_r3 (am_at hc_M_fault 162 rfl) rfl (by decide) rfl (by decide) k_ok3 (tw 321 rfl rfl) rfl rfl rfl rfl ?_
                          rw [am_uu]
                          have hx : au_nx T n i st ms dp fd = none := by unfold au_nx; rw [if_neg hs0, if_neg hdn, if_neg hln, if_pos ⟨g4, g6⟩, if_neg (by omega), if_neg c60, if_neg (fun z => by omega)]
                          rw [au_run_none hx] at he
                          refine am_weak (L' := [some (.ref 40), none, none, none, some (.int (nI i)), none, some (.int (-1)), none]) ⟨rfl, rfl, rfl, trivial⟩ ?_
                          exact chkF i _ he
                        · have d0 : 0 < dp := Nat.pos_of_ne_zero (fun z => absurd (show nI dp ≤ 0 by rw [z]; decide) qc)
                          refine am_go cd_M_fault hc_M_fault 138 2 (pc' := 263) (L' := [some (.ref 40), some (.int (nI st)), some (.int (nI ms)), some (.int (nI dp)), some (.int (nI i)), some (.int (nI (T i))), some (.int (-1)), none]) (st' := [.int 5]) rfl ?_
                          refine am_go cd_M_fault hc_M_fault 141 3 (pc' := 269) (L' := [some (.ref 40), some (.int (nI st)), some (.int (nI ms)), some (.int (nI dp)), some (.int (nI i)), some (.int (nI (T i))), some (.int 5), none]) (st' := [.int 41, .int (nI (T i))]) rfl ?_
                          refine am_icmp_ne 278 (am_at hc_M_fault 144 rfl) (by decide) (fun qa => absurd qa (fun z => z (by rw [c41]; rfl))) (fun qa => ?_)
                          refine am_go cd_M_fault hc_M_fault 145 4 (pc' := 279) (L' := [some (.ref 40), some (.int (nI st)), some (.int (nI ms)), some (.int (nI dp)), some (.int (nI i)), some (.int (nI (T i))), some (.int 5), none]) (st' := [.int (nI dp - 1)]) rfl ?_
                          refine am_go cd_M_fault hc_M_fault 150 4 (pc' := 285) (L' := [some (.ref 40), some (.int (nI st)), some (.int (nI ms)), some (.int (nI dp - 1)), some (.int (nI i)), some (.int (nI (T i))), some (.int 5), none]) (st' := [.int 41, .int (nI (T i)), .ref 40]) rfl ?_
                          refine am_icmp_ne 295 (am_at hc_M_fault 154 rfl) (by decide) (fun qb => absurd qb (fun z => z (by rw [c41]; rfl))) (fun qb => ?_)
                          refine am_go cd_M_fault hc_M_fault 155 1 (pc' := 289) (L' := [some (.ref 40), some (.int (nI st)), some (.int (nI ms)), some (.int (nI dp - 1)), some (.int (nI i)), some (.int (nI (T i))), some (.int 5), none]) (st' := [.ref 40, .ref 40]) rfl ?_
                          refine am_getf 3 15 k_r3 (am_at hc_M_fault 156 rfl) rfl (by decide) rfl (by decide) k_ok3 (Or.inl (tw 321 rfl rfl)) (congrArg Value.int am_u_i) ?_
                          refine am_go cd_M_fault hc_M_fault 157 1 (pc' := 301) (L' := [some (.ref 40), some (.int (nI st)), some (.int (nI ms)), some (.int (nI dp - 1)), some (.int (nI i)), some (.int (nI (T i))), some (.int 5), none]) (st' := [.int (nI fd), .ref 40]) rfl ?_
                          refine am_putI 3 15 k_r3 (am_at hc_M_fault 162 rfl) rfl (by decide) rfl (by decide) k_ok3 (tw 321 rfl rfl) rfl rfl rfl rfl ?_
                          rw [am_uu]
                          rw [show nI dp - 1 = nI (dp - 1) from pk_sub (b := 1) d0]
                          have hx : au_nx T n i st ms dp fd = some (5, ms, dp - 1, fd) := by unfold au_nx; rw [if_neg hs0, if_neg hdn, if_neg hln, if_pos ⟨g4, g6⟩, if_neg (by omega), if_neg c60, if_pos ⟨c41, d0⟩]
                          refine am_weak (L' := [some (.ref 40), none, some (.int (nI ms)), some (.int (nI (dp - 1))), some (.int (nI i)), none, some (.int 5), none]) ⟨rfl, rfl, rfl, rfl, rfl, trivial⟩ ?_
                          exact chkN (5, ms, dp - 1, fd) hx (by dsimp only; omega) (by dsimp only; omega) (fun _ => by dsimp only; omega) (by dsimp only; omega)
                    · have c60 : T i = 60 := (nI_eq (b := 60) (by omega) (by decide)).mp q8
                      refine am_go cd_M_fault hc_M_fault 131 2 (pc' := 263) (L' := [some (.ref 40), some (.int (nI st)), some (.int (nI ms)), some (.int (nI dp)), some (.int (nI i)), some (.int (nI (T i))), some (.int (-1)), none]) (st' := [.int 6]) rfl ?_
                      refine am_go cd_M_fault hc_M_fault 141 3 (pc' := 269) (L' := [some (.ref 40), some (.int (nI st)), some (.int (nI ms)), some (.int (nI dp)), some (.int (nI i)), some (.int (nI (T i))), some (.int 6), none]) (st' := [.int 41, .int (nI (T i))]) rfl ?_
                      refine am_icmp_ne 278 (am_at hc_M_fault 144 rfl) (by decide) (fun qa => ?_) (fun qa => absurd qa (fun z => by have := (nI_eq (b := 41) (by omega) (by decide)).mp z; omega))
                      refine am_go cd_M_fault hc_M_fault 149 5 (pc' := 285) (L' := [some (.ref 40), some (.int (nI st)), some (.int (nI ms)), some (.int (nI dp)), some (.int (nI i)), some (.int (nI (T i))), some (.int 6), none]) (st' := [.int 41, .int (nI (T i)), .ref 40]) rfl ?_
                      refine am_icmp_ne 295 (am_at hc_M_fault 154 rfl) (by decide) (fun qb => ?_) (fun qb => absurd qb (fun z => by have := (nI_eq (b := 41) (by omega) (by decide)).mp z; omega))
                      refine am_go cd_M_fault hc_M_fault 158 1 (pc' := 296) (L' := [some (.ref 40), some (.int (nI st)), some (.int (nI ms)), some (.int (nI dp)), some (.int (nI i)), some (.int (nI (T i))), some (.int 6), none]) (st' := [.ref 40, .ref 40]) rfl ?_
                      refine am_getf 3 15 k_r3 (am_at hc_M_fault 159 rfl) rfl (by decide) rfl (by decide) k_ok3 (Or.inl (tw 321 rfl rfl)) (congrArg Value.int am_u_i) ?_
                      refine am_go cd_M_fault hc_M_fault 160 2 (pc' := 301) (L' := [some (.ref 40), some (.int (nI st)), some (.int (nI ms)), some (.int (nI dp)), some (.int (nI i)), some (.int (nI (T i))), some (.int 6), none]) (st' := [.int (nI fd + 1), .ref 40]) rfl ?_
                      rw [show nI fd + 1 = nI (fd + 1) from nI_1 _]
                      refine am_putI 3 15 k_r3 (am_at hc_M_fault 162 rfl) rfl (by decide) rfl (by decide) k_ok3 (tw 321 rfl rfl) rfl rfl rfl rfl ?_
                      rw [am_uu]
                      have hx : au_nx T n i st ms dp fd = some (6, ms, dp, fd + 1) := by unfold au_nx; rw [if_neg hs0, if_neg hdn, if_neg hln, if_pos ⟨g4, g6⟩, if_neg (by omega), if_pos c60]
                      refine am_weak (L' := [some (.ref 40), none, some (.int (nI ms)), some (.int (nI dp)), some (.int (nI i)), none, some (.int 6), none]) ⟨rfl, rfl, rfl, rfl, rfl, trivial⟩ ?_
                      exact chkN (6, ms, dp, fd + 1) hx (by dsimp only; omega) (by dsimp only; omega) (fun _ => by dsimp only; omega) (by dsimp only; omega)
                  · have z : T i = 94 := (nI_eq (b := 94) (by omega) (by decide)).mp q7
                    refine am_go cd_M_fault hc_M_fault 126 2 (pc' := 263) (L' := [some (.ref 40), some (.int (nI st)), some (.int (nI ms)), some (.int (nI dp)), some (.int (nI i)), some (.int (nI (T i))), some (.int (-1)), none]) (st' := [.int 0]) rfl ?_
                    refine am_go cd_M_fault hc_M_fault 141 3 (pc' := 269) (L' := [some (.ref 40), some (.int (nI st)), some (.int (nI ms)), some (.int (nI dp)), some (.int (nI i)), some (.int (nI (T i))), some (.int 0), none]) (st' := [.int 41, .int (nI (T i))]) rfl ?_
                    refine am_icmp_ne 278 (am_at hc_M_fault 144 rfl) (by decide) (fun qa => ?_) (fun qa => absurd qa (fun z => by have := (nI_eq (b := 41) (by omega) (by decide)).mp z; omega))
                    refine am_go cd_M_fault hc_M_fault 149 5 (pc' := 285) (L' := [some (.ref 40), some (.int (nI st)), some (.int (nI ms)), some (.int (nI dp)), some (.int (nI i)), some (.int (nI (T i))), some (.int 0), none]) (st' := [.int 41, .int (nI (T i)), .ref 40]) rfl ?_
                    refine am_icmp_ne 295 (am_at hc_M_fault 154 rfl) (by decide) (fun qb => ?_) (fun qb => absurd qb (fun z => by have := (nI_eq (b := 41) (by omega) (by decide)).mp z; omega))
                    refine am_go cd_M_fault hc_M_fault 158 1 (pc' := 296) (L' := [some (.ref 40), some (.int (nI st)), some (.int (nI ms)), some (.int (nI dp)), some (.int (nI i)), some (.int (nI (T i))), some (.int 0), none]) (st' := [.ref 40, .ref 40]) rfl ?_
                    refine am_getf 3 15 k_r3 (am_at hc_M_fault 159 rfl) rfl (by decide) rfl (by decide) k_ok3 (Or.inl (tw 321 rfl rfl)) (congrArg Value.int am_u_i) ?_
                    refine am_go cd_M_fault hc_M_fault 160 2 (pc' := 301) (L' := [some (.ref 40), some (.int (nI st)), some (.int (nI ms)), some (.int (nI dp)), some (.int (nI i)), some (.int (nI (T i))), some (.int 0), none]) (st' := [.int (nI fd + 1), .ref 40]) rfl ?_
                    rw [show nI fd + 1 = nI (fd + 1) from nI_1 _]
                    refine am_putI 3 15 k_r3 (am_at hc_M_fault 162 rfl) rfl (by decide) rfl (by decide) k_ok3 (tw 321 rfl rfl) rfl rfl rfl rfl ?_
                    rw [am_uu]
                    have hx : au_nx T n i st ms dp fd = some (0, ms, dp, fd + 1) := by unfold au_nx; rw [if_neg hs0, if_neg hdn, if_neg hln, if_pos ⟨g4, g6⟩, if_pos (by omega)]
                    refine am_weak (L' := [some (.ref 40), none, some (.int (nI ms)), some (.int (nI dp)), some (.int (nI i)), none, some (.int 0), none]) ⟨rfl, rfl, rfl, rfl, rfl, trivial⟩ ?_
                    exact chkN (0, ms, dp, fd + 1) hx (by dsimp only; omega) (by dsimp only; omega) (fun _ => by dsimp only; omega) (by dsimp only; omega)
      · have hs0 : st = 0 := (nI_eq (b := 0) (by omega) (by decide)).mp q1
        refine am_go cd_M_fault hc_M_fault 24 2 (pc' := 42) (L' := [some (.ref 40), some (.int (nI st)), some (.int (nI ms)), some (.int (nI dp)), some (.int (nI i)), some (.int (nI (T i))), some (.int (-1)), none]) (st' := [.int (nI i), .ref 40]) rfl ?_
        refine cW.callV1 45 [.int (bI (pr_dg T n i))] (st := []) [.int (nI i)] (am_at hc_M_fault 26 rfl) g_M_digit (Or.inl (tw 401 rfl rfl)) (tw 403 rfl rfl) (tp 20 rfl rfl) 3 k_r3 rfl (by decide) rfl rfl rfl rfl (Nat.le_of_ble_eq_true rfl) (c_M_digit (hD _) (by omega)) rfl rfl ?_
        cases hdg : pr_dg T n i with
        | true =>
          simp only [bI_t]
          obtain ⟨z1, z2, z3⟩ := pr_dg_lt hdg
          refine am_if_eq 52 (am_at hc_M_fault 27 rfl) (by decide) (fun q2 => absurd q2 (by decide)) (fun q2 => ?_)
          refine am_go cd_M_fault hc_M_fault 28 2 (pc' := 70) (L' := [some (.ref 40), some (.int (nI st)), some (.int (nI ms)), some (.int (nI dp)), some (.int (nI i)), some (.int (nI (T i))), some (.int (-1)), none]) (st' := [.int 1]) rfl ?_
          refine am_go cd_M_fault hc_M_fault 39 3 (pc' := 76) (L' := [some (.ref 40), some (.int (nI st)), some (.int (nI ms)), some (.int (nI dp)), some (.int (nI i)), some (.int (nI (T i))), some (.int 1), none]) (st' := [.int 40, .int (nI (T i))]) rfl ?_
          refine am_icmp_ne 85 (am_at hc_M_fault 42 rfl) (by decide) (fun q3 => ?_) (fun q3 => absurd q3 (fun z => by have := (nI_eq (b := 40) (by omega) (by decide)).mp z; omega))
          refine am_go cd_M_fault hc_M_fault 47 5 (pc' := 91) (L' := [some (.ref 40), some (.int (nI st)), some (.int (nI ms)), some (.int (nI dp)), some (.int (nI i)), some (.int (nI (T i))), some (.int 1), none]) (st' := [.int (nI i), .ref 40, .ref 40]) rfl ?_
          refine cW.callV1 94 [.int (bI (pr_dg T n i)), .ref 40] (st := [.ref 40]) [.int (nI i)] (am_at hc_M_fault 52 rfl) g_M_digit (Or.inl (tw 401 rfl rfl)) (tw 403 rfl rfl) (tp 20 rfl rfl) 3 k_r3 rfl (by decide) rfl rfl rfl rfl (Nat.le_of_ble_eq_true rfl) (c_M_digit (hD _) (by omega)) rfl rfl ?_
          rw [hdg]
          simp only [bI_t]
          refine am_if_eq 106 (am_at hc_M_fault 53 rfl) (by decide) (fun q4 => absurd q4 (by decide)) (fun q4 => ?_)
          refine am_go cd_M_fault hc_M_fault 54 1 (pc' := 98) (L' := [some (.ref 40), some (.int (nI st)), some (.int (nI ms)), some (.int (nI dp)), some (.int (nI i)), some (.int (nI (T i))), some (.int 1), none]) (st' := [.ref 40, .ref 40]) rfl ?_
          refine am_getf 3 15 k_r3 (am_at hc_M_fault 55 rfl) rfl (by decide) rfl (by decide) k_ok3 (Or.inl (tw 321 rfl rfl)) (congrArg Value.int am_u_i) ?_
          refine am_go cd_M_fault hc_M_fault 56 2 (pc' := 103) (L' := [some (.ref 40), some (.int (nI st)), some (.int (nI ms)), some (.int (nI dp)), some (.int (nI i)), some (.int (nI (T i))), some (.int 1), none]) (st' := [.int (nI fd + 1), .ref 40]) rfl ?_
          rw [show nI fd + 1 = nI (fd + 1) from nI_1 _]
          refine am_go cd_M_fault hc_M_fault 58 1 (pc' := 110) (L' := [some (.ref 40), some (.int (nI st)), some (.int (nI ms)), some (.int (nI dp)), some (.int (nI i)), some (.int (nI (T i))), some (.int 1), none]) (st' := [.int (nI (fd + 1)), .ref 40]) rfl ?_
          refine am_putI 3 15 k_r3 (am_at hc_M_fault 61 rfl) rfl (by decide) rfl (by decide) k_ok3 (tw 321 rfl rfl) rfl rfl rfl rfl ?_
          rw [am_uu]
          refine am_go cd_M_fault hc_M_fault 62 3 (pc' := 304) (L' := [some (.ref 40), some (.int (nI st)), some (.int 0), some (.int (nI dp)), some (.int (nI i)), some (.int (nI (T i))), some (.int 1), none]) (st' := []) rfl ?_
          have hx : au_nx T n i st ms dp fd = some (1, 0, dp, fd + 1) := by unfold au_nx; rw [if_pos hs0, if_pos hdg]
          refine am_weak (L' := [some (.ref 40), none, some (.int 0), some (.int (nI dp)), some (.int (nI i)), none, some (.int 1), none]) ⟨rfl, rfl, rfl, rfl, rfl, trivial⟩ ?_
          exact chkN (1, 0, dp, fd + 1) hx (by dsimp only; omega) (by dsimp only; omega) (fun _ => by dsimp only; omega) (by dsimp only; omega)
        | false =>
          have hdn : ¬ pr_dg T n i = true := by rw [hdg]; decide
          simp only [bI_f]
          refine am_if_eq 52 (am_at hc_M_fault 27 rfl) (by decide) (fun q2 => ?_) (fun q2 => absurd rfl q2)
          refine am_go cd_M_fault hc_M_fault 30 2 (pc' := 56) (L' := [some (.ref 40), some (.int (nI st)), some (.int (nI ms)), some (.int (nI dp)), some (.int (nI i)), some (.int (nI (T i))), some (.int (-1)), none]) (st' := [.int 40, .int (nI (T i))]) rfl ?_
          refine am_icmp_ne 69 (am_at hc_M_fault 32 rfl) (by decide) (fun q3 => ?_) (fun q3 => ?_)
          · have c40 : ¬ T i = 40 := fun z => q3 (by rw [z]; rfl)
            refine am_go cd_M_fault hc_M_fault 38 4 (pc' := 76) (L' := [some (.ref 40), some (.int (nI st)), some (.int (nI ms)), some (.int (nI dp)), some (.int (nI i)), some (.int (nI (T i))), some (.int (-1)), none]) (st' := [.int 40, .int (nI (T i))]) rfl ?_
            refine am_icmp_ne 85 (am_at hc_M_fault 42 rfl) (by decide) (fun qa => ?_) (fun qa => absurd qa (fun z => c40 ((nI_eq (b := 40) (by omega) (by decide)).mp z)))
            refine am_go cd_M_fault hc_M_fault 47 5 (pc' := 91) (L' := [some (.ref 40), some (.int (nI st)), some (.int (nI ms)), some (.int (nI dp)), some (.int (nI i)), some (.int (nI (T i))), some (.int (-1)), none]) (st' := [.int (nI i), .ref 40, .ref 40]) rfl ?_
            refine cW.callV1 94 [.int (bI (pr_dg T n i)), .ref 40] (st := [.ref 40]) [.int (nI i)] (am_at hc_M_fault 52 rfl) g_M_digit (Or.inl (tw 401 rfl rfl)) (tw 403 rfl rfl) (tp 20 rfl rfl) 3 k_r3 rfl (by decide) rfl rfl rfl rfl (Nat.le_of_ble_eq_true rfl) (c_M_digit (hD _) (by omega)) rfl rfl ?_
            rw [hdg]
            simp only [bI_f]
            refine am_if_eq 106 (am_at hc_M_fault 53 rfl) (by decide) (fun qb => ?_) (fun qb => absurd rfl qb)
            refine am_go cd_M_fault hc_M_fault 59 1 (pc' := 107) (L' := [some (.ref 40), some (.int (nI st)), some (.int (nI ms)), some (.int (nI dp)), some (.int (nI i)), some (.int (nI (T i))), some (.int (-1)), none]) (st' := [.ref 40, .ref 40]) rfl ?_
            refine am_getf 3 15 k_r3 (am_at hc_M_fault 60 rfl) rfl (by decide) rfl (by decide) k_ok3 (Or.inl (tw 321 rfl rfl)) (congrArg Value.int am_u_i) ?_
            refine am_putI 3 15 k_r3 (am_at hc_M_fault 61 rfl) rfl (by decide) rfl (by decide) k_ok3 (tw 321 rfl rfl) rfl rfl rfl rfl ?_
            rw [am_uu]
            refine am_go cd_M_fault hc_M_fault 62 3 (pc' := 304) (L' := [some (.ref 40), some (.int (nI st)), some (.int 0), some (.int (nI dp)), some (.int (nI i)), some (.int (nI (T i))), some (.int (-1)), none]) (st' := []) rfl ?_
            have hx : au_nx T n i st ms dp fd = none := by unfold au_nx; rw [if_pos hs0, if_neg hdn, if_neg (fun z => c40 z.1)]
            rw [au_run_none hx] at he
            refine am_weak (L' := [some (.ref 40), none, none, none, some (.int (nI i)), none, some (.int (-1)), none]) ⟨rfl, rfl, rfl, trivial⟩ ?_
            exact chkF i _ he
          · have c40 : T i = 40 := (nI_eq (b := 40) (by omega) (by decide)).mp q3
            refine am_go cd_M_fault hc_M_fault 33 2 (pc' := 62) (L' := [some (.ref 40), some (.int (nI st)), some (.int (nI ms)), some (.int (nI dp)), some (.int (nI i)), some (.int (nI (T i))), some (.int (-1)), none]) (st' := [.int 8, .int (nI dp)]) rfl ?_
            refine am_icmp_ge 69 (am_at hc_M_fault 35 rfl) (by decide) (fun q4 => ?_) (fun q4 => ?_)
            · have d8 : 8 ≤ dp := (nI_leI (a := 8) (by decide) (by omega)).mp q4
              refine am_go cd_M_fault hc_M_fault 38 4 (pc' := 76) (L' := [some (.ref 40), some (.int (nI st)), some (.int (nI ms)), some (.int (nI dp)), some (.int (nI i)), some (.int (nI (T i))), some (.int (-1)), none]) (st' := [.int 40, .int (nI (T i))]) rfl ?_
              refine am_icmp_ne 85 (am_at hc_M_fault 42 rfl) (by decide) (fun qa => absurd qa (fun z => z (by rw [c40]; rfl))) (fun qa => ?_)
              refine am_go cd_M_fault hc_M_fault 43 4 (pc' := 86) (L' := [some (.ref 40), some (.int (nI st)), some (.int (nI ms)), some (.int (nI dp)), some (.int (nI i)), some (.int (nI (T i))), some (.int (-1)), none]) (st' := [.int (nI dp + 1)]) rfl ?_
              refine am_go cd_M_fault hc_M_fault 48 4 (pc' := 91) (L' := [some (.ref 40), some (.int (nI st)), some (.int (nI ms)), some (.int (nI dp + 1)), some (.int (nI i)), some (.int (nI (T i))), some (.int (-1)), none]) (st' := [.int (nI i), .ref 40, .ref 40]) rfl ?_
              refine cW.callV1 94 [.int (bI (pr_dg T n i)), .ref 40] (st := [.ref 40]) [.int (nI i)] (am_at hc_M_fault 52 rfl) g_M_digit (Or.inl (tw 401 rfl rfl)) (tw 403 rfl rfl) (tp 20 rfl rfl) 3 k_r3 rfl (by decide) rfl rfl rfl rfl (Nat.le_of_ble_eq_true rfl) (c_M_digit (hD _) (by omega)) rfl rfl ?_
              rw [hdg]
              simp only [bI_f]
              refine am_if_eq 106 (am_at hc_M_fault 53 rfl) (by decide) (fun qb => ?_) (fun qb => absurd rfl qb)
              refine am_go cd_M_fault hc_M_fault 59 1 (pc' := 107) (L' := [some (.ref 40), some (.int (nI st)), some (.int (nI ms)), some (.int (nI dp + 1)), some (.int (nI i)), some (.int (nI (T i))), some (.int (-1)), none]) (st' := [.ref 40, .ref 40]) rfl ?_
              refine am_getf 3 15 k_r3 (am_at hc_M_fault 60 rfl) rfl (by decide) rfl (by decide) k_ok3 (Or.inl (tw 321 rfl rfl)) (congrArg Value.int am_u_i) ?_
              refine am_putI 3 15 k_r3 (am_at hc_M_fault 61 rfl) rfl (by decide) rfl (by decide) k_ok3 (tw 321 rfl rfl) rfl rfl rfl rfl ?_
              rw [am_uu]
              refine am_go cd_M_fault hc_M_fault 62 3 (pc' := 304) (L' := [some (.ref 40), some (.int (nI st)), some (.int 0), some (.int (nI dp + 1)), some (.int (nI i)), some (.int (nI (T i))), some (.int (-1)), none]) (st' := []) rfl ?_
              have hx : au_nx T n i st ms dp fd = none := by unfold au_nx; rw [if_pos hs0, if_neg hdn, if_neg (fun z => by omega)]
              rw [au_run_none hx] at he
              refine am_weak (L' := [some (.ref 40), none, none, none, some (.int (nI i)), none, some (.int (-1)), none]) ⟨rfl, rfl, rfl, trivial⟩ ?_
              exact chkF i _ he
            · have d8 : dp < 8 := Nat.not_le.mp (fun z => q4 ((nI_leI (a := 8) (by decide) (by omega)).mpr z))
              refine am_go cd_M_fault hc_M_fault 36 2 (pc' := 70) (L' := [some (.ref 40), some (.int (nI st)), some (.int (nI ms)), some (.int (nI dp)), some (.int (nI i)), some (.int (nI (T i))), some (.int (-1)), none]) (st' := [.int 0]) rfl ?_
              refine am_go cd_M_fault hc_M_fault 39 3 (pc' := 76) (L' := [some (.ref 40), some (.int (nI st)), some (.int (nI ms)), some (.int (nI dp)), some (.int (nI i)), some (.int (nI (T i))), some (.int 0), none]) (st' := [.int 40, .int (nI (T i))]) rfl ?_
              refine am_icmp_ne 85 (am_at hc_M_fault 42 rfl) (by decide) (fun qa => absurd qa (fun z => z (by rw [c40]; rfl))) (fun qa => ?_)
              refine am_go cd_M_fault hc_M_fault 43 4 (pc' := 86) (L' := [some (.ref 40), some (.int (nI st)), some (.int (nI ms)), some (.int (nI dp)), some (.int (nI i)), some (.int (nI (T i))), some (.int 0), none]) (st' := [.int (nI dp + 1)]) rfl ?_
              refine am_go cd_M_fault hc_M_fault 48 4 (pc' := 91) (L' := [some (.ref 40), some (.int (nI st)), some (.int (nI ms)), some (.int (nI dp + 1)), some (.int (nI i)), some (.int (nI (T i))), some (.int 0), none]) (st' := [.int (nI i), .ref 40, .ref 40]) rfl ?_
              refine cW.callV1 94 [.int (bI (pr_dg T n i)), .ref 40] (st := [.ref 40]) [.int (nI i)] (am_at hc_M_fault 52 rfl) g_M_digit (Or.inl (tw 401 rfl rfl)) (tw 403 rfl rfl) (tp 20 rfl rfl) 3 k_r3 rfl (by decide) rfl rfl rfl rfl (Nat.le_of_ble_eq_true rfl) (c_M_digit (hD _) (by omega)) rfl rfl ?_
              rw [hdg]
              simp only [bI_f]
              refine am_if_eq 106 (am_at hc_M_fault 53 rfl) (by decide) (fun qb => ?_) (fun qb => absurd rfl qb)
              refine am_go cd_M_fault hc_M_fault 59 1 (pc' := 107) (L' := [some (.ref 40), some (.int (nI st)), some (.int (nI ms)), some (.int (nI dp + 1)), some (.int (nI i)), some (.int (nI (T i))), some (.int 0), none]) (st' := [.ref 40, .ref 40]) rfl ?_
              refine am_getf 3 15 k_r3 (am_at hc_M_fault 60 rfl) rfl (by decide) rfl (by decide) k_ok3 (Or.inl (tw 321 rfl rfl)) (congrArg Value.int am_u_i) ?_
              refine am_putI 3 15 k_r3 (am_at hc_M_fault 61 rfl) rfl (by decide) rfl (by decide) k_ok3 (tw 321 rfl rfl) rfl rfl rfl rfl ?_
              rw [am_uu]
              refine am_go cd_M_fault hc_M_fault 62 3 (pc' := 304) (L' := [some (.ref 40), some (.int (nI st)), some (.int 0), some (.int (nI dp + 1)), some (.int (nI i)), some (.int (nI (T i))), some (.int 0), none]) (st' := []) rfl ?_
              rw [show nI dp + 1 = nI (dp + 1) from nI_1 _]
              have hx : au_nx T n i st ms dp fd = some (0, 0, dp + 1, fd) := by unfold au_nx; rw [if_pos hs0, if_neg hdn, if_pos ⟨c40, d8⟩]
              refine am_weak (L' := [some (.ref 40), none, some (.int 0), some (.int (nI (dp + 1))), some (.int (nI i)), none, some (.int 0), none]) ⟨rfl, rfl, rfl, rfl, rfl, trivial⟩ ?_
              exact chkN (0, 0, dp + 1, fd) hx (by dsimp only; omega) (by dsimp only; omega) (fun _ => by dsimp only; omega) (by dsimp only; omega)
  have h0 := loop n 0 0 0 0 0 (by omega) (by decide) (by decide) (by decide) (by decide) hRR
  exact h0
end
section
theorem am_congrS {l : Launch} {C : am_Cfg} {x : am_X} {dep bc bs pc : Nat} {mi : am_M} {L : List (Option Value)} {st st' : List Value} {S : am_S} {nn : Nat} {d : am_D} {Q : Option Value → am_S → Nat → am_D → Prop} (h : st' = st) (kk : am_W l C x dep bc bs mi pc L st' S nn d Q) : am_W l C x dep bc bs mi pc L st S nn d Q := h ▸ kk
/-- k places from lo on are F's -/
def am_tr (d : am_D) (a lo k : Nat) (F : Nat → Int32) : am_D := am_nd d a (fun j => if lo ≤ j ∧ j < lo + k then F (j - lo) else d a j)
theorem am_tr_0 (d : am_D) (a lo : Nat) (F : Nat → Int32) : am_tr d a lo 0 F = d := by
  funext b; unfold am_tr am_nd
  by_cases h : b = a
  · subst h; simp only [if_true]; funext j; rw [if_neg (by omega)]
  · simp [h]
theorem am_tr_s (d : am_D) (a lo k : Nat) (F : Nat → Int32) : am_u (am_tr d a lo k F) a (lo + k) (F k) = am_tr d a lo (k + 1) F := by
  funext b j; unfold am_u am_tr am_nd
  by_cases h1 : b = a
  · by_cases h2 : j = lo + k
    · simp [h1, h2]
    · by_cases h3 : lo ≤ j ∧ j < lo + k
      · simp [h1, h2, h3, show j < lo + (k + 1) by omega]
      · have h4 : ¬ (lo ≤ j ∧ j < lo + (k + 1)) := by omega
        simp [h1, h2, h3, h4]
  · simp [h1]
theorem am_tr_in {d : am_D} {a lo k j : Nat} {F : Nat → Int32} (h : j < k) : am_tr d a lo k F a (lo + j) = F j := by unfold am_tr; rw [am_nd_self, if_pos (by omega), Nat.add_sub_cancel_left]
theorem am_tr_out {d : am_D} {a lo k j : Nat} {F : Nat → Int32} (h : j < lo ∨ lo + k ≤ j) : am_tr d a lo k F a j = d a j := by unfold am_tr; rw [am_nd_self, if_neg (by omega)]
theorem am_tr_ne {d : am_D} {a lo k b : Nat} {F : Nat → Int32} (h : b ≠ a) : am_tr d a lo k F b = d b := by unfold am_tr; exact am_nd_ne h
/-- what the reference's reader touches -/
def rmF (d d' : am_D) : Prop := (∀ a, a ≠ 40 → a ≠ 47 → a ≠ 48 → a ≠ 49 → d' a = d a) ∧ ∀ j, j ≠ 10 → j ≠ 13 → j ≠ 14 → d' 40 j = d 40 j
theorem rmF.rf {d : am_D} : rmF d d := ⟨fun _ _ _ _ _ => rfl, fun _ _ _ _ => rfl⟩
theorem rmF.trans {d d1 d2 : am_D} (h : rmF d d1) (h2 : rmF d1 d2) : rmF d d2 := ⟨fun a z1 z2 z3 z4 => (h2.1 a z1 z2 z3 z4).trans (h.1 a z1 z2 z3 z4), fun j z1 z2 z3 => (h2.2 j z1 z2 z3).trans (h.2 j z1 z2 z3)⟩
theorem rmF.f {d : am_D} {j : Nat} {v : Int32} (hj : j = 10 ∨ j = 13 ∨ j = 14) : rmF d (am_u d 40 j v) := ⟨fun a z _ _ _ => am_u_ne a z, fun i z1 z2 z3 => am_u_o (fun z => by omega)⟩
theorem rmF.w {d : am_D} {j : Nat} {v : Int32} : rmF d (am_u d 49 j v) := ⟨fun a _ _ _ z => am_u_ne a z, fun i _ _ _ => congrFun (am_u_ne 40 (by decide)) i⟩
theorem rmF.s {d : am_D} {k : Nat} {F : Nat → Int32} : rmF d (am_tb d 48 k F) := ⟨fun a _ _ z _ => am_tb_ne z, fun i _ _ _ => congrFun (am_tb_ne (by decide)) i⟩
theorem rmF.r {d : am_D} {lo k : Nat} {F : Nat → Int32} : rmF d (am_tr d 47 lo k F) := ⟨fun a _ z _ _ => am_tr_ne z, fun i _ _ _ => congrFun (am_tr_ne (by decide)) i⟩
theorem rmF.tm {d d' : am_D} {T : Nat → Nat} {n : Nat} (h : rmF d d') (ht : tm d T n) : tm d' T n := ht.to (h.2 5 (by decide) (by decide) (by decide)) (h.1 44 (by decide) (by decide) (by decide) (by decide))
abbrev Tb : Type := Nat → Int
/-- the stacks: the newest first -/
def tbs (d : am_D) : List Tb → Prop
  | [] => True
  | t :: ts => (tb_ok t ∧ ∀ s, s < 64 → d 47 (64 * ts.length + s) = zI (t s)) ∧ tbs d ts
def wts (d : am_D) : List Nat → Prop
  | [] => True
  | w :: ws => (d 49 ws.length = nI w ∧ w < 128) ∧ wts d ws
theorem tbs.to {d d' : am_D} : ∀ {ts : List Tb}, tbs d ts → (∀ j, j < 64 * ts.length → d' 47 j = d 47 j) → tbs d' ts
  | [], _, _ => trivial
  | t :: ts, h, hd => ⟨⟨h.1.1, fun s hs => (hd _ (by simp only [List.length_cons]; omega)).trans (h.1.2 s hs)⟩, tbs.to h.2 (fun j hj => hd j (by simp only [List.length_cons]; omega))⟩
theorem wts.to {d d' : am_D} : ∀ {ws : List Nat}, wts d ws → (∀ j, j < ws.length → d' 49 j = d 49 j) → wts d' ws
  | [], _, _ => trivial
  | w :: ws, h, hd => ⟨⟨(hd _ (by simp only [List.length_cons]; omega)).trans h.1.1, h.1.2⟩, wts.to h.2 (fun j hj => hd j (by simp only [List.length_cons]; omega))⟩
def rep (d : am_D) (ts : List Tb) (ws : List Nat) : Prop := (d 40 10 = nI ts.length ∧ ts.length ≤ 13 ∧ tbs d ts) ∧ d 40 13 = nI ws.length ∧ ws.length ≤ 40 ∧ wts d ws
def jw (w : Nat) (x y : Tb) : Tb := if w = 43 then jn x y else fun s => max (x s) (y s)
theorem tb_jw {w : Nat} {x y : Tb} (hx : tb_ok x) (hy : tb_ok y) : tb_ok (jw w x y) := by
  unfold jw; split
  · exact tb_jn hx hy
  · exact tb_max hx hy
def Red (all : Bool) : List Tb → List Nat → List Tb → List Nat → Prop
  | ts, [], ts', ws' => ts' = ts ∧ ws' = []
  | ts, w :: ws, ts', ws' => if w = 43 ∨ (all = true ∧ w = 94) then ∃ y x r, ts = y :: x :: r ∧ Red all (jw w x y :: r) ws ts' ws' else ts' = ts ∧ ws' = w :: ws
set_option maxRecDepth 100000 in
set_option maxHeartbeats 4000000 in
theorem c_M_number {l : Launch} {x : am_X} {e L : Nat} {d : am_D} {T : Nat → Nat} {n : Nat} (hr : tm d T n) {p q v : Nat} (hat : d 40 14 = nI p) (hp : p ≤ 40) (hN : pr_num T n 3 p 0 = (q, v)) (hq : pr_dg T n q = false) : cM l x (e + 1) L m_M_number [.ref 40] d (cR (some (.int (nI v))) (am_u d 40 14 (nI q))) := by
  refine cM.go (by decide) (by simp [Value.category]) (Nat.le_of_ble_eq_true rfl) ?_
  have hn := hr.2.1
  have hD : ∀ v, tm (am_u d 40 14 v) T n := fun v => hr.u (by decide) (by decide)
  refine am_go cd_M_number hc_M_number 0 2 (pc' := 2) (L' := [some (.ref 40), some (.int 0)]) (st' := []) rfl ?_
  have loop : ∀ k p0 v0, p0 ≤ 40 → pr_num T n k p0 v0 = (q, v) → cW l x (e + 1) L m_M_number 2 [some (.ref 40), some (.int (nI v0))] [] (am_u d 40 14 (nI p0)) (cR (some (.int (nI v))) (am_u d 40 14 (nI q))) := by
    intro k
    induction k with
    | zero =>
      intro p0 v0 hp0 he
      cases he
      refine am_go cd_M_number hc_M_number 2 2 (pc' := 4) (L' := [some (.ref 40), some (.int (nI v))]) (st' := [.ref 40, .ref 40]) rfl ?_
      refine am_getf 3 14 k_r3 (am_at hc_M_number 4 rfl) rfl (by decide) rfl (by decide) k_ok3 (Or.inl (tw 320 rfl rfl)) (congrArg Value.int am_u_i) ?_
      refine cW.callV1 10 [.int (bI (pr_dg T n q))] (st := []) [.int (nI q)] (am_at hc_M_number 5 rfl) g_M_digit (Or.inl (tw 401 rfl rfl)) (tw 403 rfl rfl) (tp 20 rfl rfl) 3 k_r3 rfl (by decide) rfl rfl rfl rfl (Nat.le_of_ble_eq_true rfl) (c_M_digit (hD _) (by omega)) rfl rfl ?_
      rw [hq]
      simp only [bI_f]
      refine am_if_eq 44 (am_at hc_M_number 6 rfl) (by decide) (fun q1 => ?_) (fun q1 => absurd rfl q1)
      refine am_go cd_M_number hc_M_number 26 1 (pc' := 45) (L' := [some (.ref 40), some (.int (nI v))]) (st' := [.int (nI v)]) rfl ?_
      exact am_iret (am_at hc_M_number 27 rfl) rfl rfl (cR_in rfl rfl)
    | succ k ih =>
      intro p0 v0 hp0 he
      unfold pr_num at he
      refine am_go cd_M_number hc_M_number 2 2 (pc' := 4) (L' := [some (.ref 40), some (.int (nI v0))]) (st' := [.ref 40, .ref 40]) rfl ?_
      refine am_getf 3 14 k_r3 (am_at hc_M_number 4 rfl) rfl (by decide) rfl (by decide) k_ok3 (Or.inl (tw 320 rfl rfl)) (congrArg Value.int am_u_i) ?_
      refine cW.callV1 10 [.int (bI (pr_dg T n p0))] (st := []) [.int (nI p0)] (am_at hc_M_number 5 rfl) g_M_digit (Or.inl (tw 401 rfl rfl)) (tw 403 rfl rfl) (tp 20 rfl rfl) 3 k_r3 rfl (by decide) rfl rfl rfl rfl (Nat.le_of_ble_eq_true rfl) (c_M_digit (hD _) (by omega)) rfl rfl ?_
      cases hg : pr_dg T n p0 with
      | false =>
        rw [hg, if_neg (by decide)] at he
        cases he
        simp only [bI_f]
        refine am_if_eq 44 (am_at hc_M_number 6 rfl) (by decide) (fun q1 => ?_) (fun q1 => absurd rfl q1)
        refine am_go cd_M_number hc_M_number 26 1 (pc' := 45) (L' := [some (.ref 40), some (.int (nI v))]) (st' := [.int (nI v)]) rfl ?_
        exact am_iret (am_at hc_M_number 27 rfl) rfl rfl (cR_in rfl rfl)
      | true =>
        rw [hg, if_pos rfl] at he
        obtain ⟨z1, z2, z3⟩ := pr_dg_lt hg
        simp only [bI_t]
        refine am_if_eq 44 (am_at hc_M_number 6 rfl) (by decide) (fun q1 => absurd q1 (by decide)) (fun q1 => ?_)
        refine am_go cd_M_number hc_M_number 7 3 (pc' := 17) (L' := [some (.ref 40), some (.int (nI v0))]) (st' := [.int (10 * nI v0)]) rfl ?_
        rw [show 10 * nI v0 = nI (10 * v0) from pk_mul 10 v0]
        refine am_go cd_M_number hc_M_number 10 1 (pc' := 18) (L' := [some (.ref 40), some (.int (nI v0))]) (st' := [.ref 40, .int (nI (10 * v0))]) rfl ?_
        refine am_getf 3 6 k_r3 (am_at hc_M_number 11 rfl) rfl (by decide) rfl (by decide) k_ok3 (Or.inl (tw 312 rfl rfl)) rfl ?_
        refine am_go cd_M_number hc_M_number 12 1 (pc' := 22) (L' := [some (.ref 40), some (.int (nI v0))]) (st' := [.ref 40, .ref 44, .int (nI (10 * v0))]) rfl ?_
        refine am_getf 3 14 k_r3 (am_at hc_M_number 13 rfl) rfl (by decide) rfl (by decide) k_ok3 (Or.inl (tw 320 rfl rfl)) (congrArg Value.int am_u_i) ?_
        refine am_iaload (p0) (am_at hc_M_number 14 rfl) rfl (Or.inl (by decide)) rfl (by show p0 < 40; omega) (Nat.le_of_ble_eq_true rfl) ?_
        rw [show am_u d 40 14 (nI p0) 44 p0 = nI (T p0) from ((hD _).2.2 p0 z1).1]
        refine am_go cd_M_number hc_M_number 15 1 (pc' := 27) (L' := [some (.ref 40), some (.int (nI v0))]) (st' := [.int (nI (10 * v0) + nI (T p0))]) rfl ?_
        rw [show nI (10 * v0) + nI (T p0) = nI (10 * v0 + T p0) from nI_add _ _]
        refine am_go cd_M_number hc_M_number 16 2 (pc' := 30) (L' := [some (.ref 40), some (.int (nI v0))]) (st' := [.int (nI (10 * v0 + T p0) - 48)]) rfl ?_
        rw [show nI (10 * v0 + T p0) - 48 = nI (v0 * 10 + (T p0 - 48)) from (pk_sub (b := 48) (by omega)).trans (congrArg nI (by omega))]
        refine am_go cd_M_number hc_M_number 18 3 (pc' := 33) (L' := [some (.ref 40), some (.int (nI (v0 * 10 + (T p0 - 48))))]) (st' := [.ref 40, .ref 40]) rfl ?_
        refine am_getf 3 14 k_r3 (am_at hc_M_number 21 rfl) rfl (by decide) rfl (by decide) k_ok3 (Or.inl (tw 320 rfl rfl)) (congrArg Value.int am_u_i) ?_
        refine am_go cd_M_number hc_M_number 22 2 (pc' := 38) (L' := [some (.ref 40), some (.int (nI (v0 * 10 + (T p0 - 48))))]) (st' := [.int (nI p0 + 1), .ref 40]) rfl ?_
        rw [show nI p0 + 1 = nI (p0 + 1) from nI_1 _]
        refine am_putI 3 14 k_r3 (am_at hc_M_number 24 rfl) rfl (by decide) rfl (by decide) k_ok3 (tw 320 rfl rfl) rfl rfl rfl rfl ?_
        rw [am_uu]
        refine am_go cd_M_number hc_M_number 25 1 (pc' := 2) (L' := [some (.ref 40), some (.int (nI (v0 * 10 + (T p0 - 48))))]) (st' := []) rfl ?_
        exact ih (p0 + 1) _ (by omega) he
  have h0 := loop 3 p 0 hp hN
  rw [am_u_id hat] at h0
  exact h0
set_option maxRecDepth 100000 in
set_option maxHeartbeats 4000000 in
theorem c_M_hold {l : Launch} {x : am_X} {e L : Nat} {d : am_D} {c k : Nat} (hk : d 40 13 = nI k) (hk2 : k < 40) : cM l x e L m_M_hold [.ref 40, .int (nI c)] d (cR none (am_u (am_u d 49 k (nI c)) 40 13 (nI (k + 1)))) := by
  refine cM.go (by decide) (by simp [Value.category]) (Nat.le_of_ble_eq_true rfl) ?_
  refine am_go cd_M_hold hc_M_hold 0 1 (pc' := 1) (L' := [some (.ref 40), some (.int (nI c))]) (st' := [.ref 40]) rfl ?_
  refine am_getf 3 12 k_r3 (am_at hc_M_hold 1 rfl) rfl (by decide) rfl (by decide) k_ok3 (Or.inl (tw 318 rfl rfl)) rfl ?_
  refine am_go cd_M_hold hc_M_hold 2 1 (pc' := 5) (L' := [some (.ref 40), some (.int (nI c))]) (st' := [.ref 40, .ref 49]) rfl ?_
  refine am_getf 3 13 k_r3 (am_at hc_M_hold 3 rfl) rfl (by decide) rfl (by decide) k_ok3 (Or.inl (tw 319 rfl rfl)) (congrArg Value.int hk) ?_
  refine am_go cd_M_hold hc_M_hold 4 1 (pc' := 9) (L' := [some (.ref 40), some (.int (nI c))]) (st' := [.int (nI c), .int (nI k), .ref 49]) rfl ?_
  refine am_iastore (k) (am_at hc_M_hold 5 rfl) rfl (by decide) rfl (by show k < 40; omega) (Nat.le_of_ble_eq_true rfl) ?_
  refine am_go cd_M_hold hc_M_hold 6 2 (pc' := 12) (L' := [some (.ref 40), some (.int (nI c))]) (st' := [.ref 40, .ref 40]) rfl ?_
  refine am_getf 3 13 k_r3 (am_at hc_M_hold 8 rfl) rfl (by decide) rfl (by decide) k_ok3 (Or.inl (tw 319 rfl rfl)) (congrArg Value.int ((congrFun (am_u_ne 40 (by decide)) 13).trans hk)) ?_
  refine am_go cd_M_hold hc_M_hold 9 2 (pc' := 17) (L' := [some (.ref 40), some (.int (nI c))]) (st' := [.int (nI k + 1), .ref 40]) rfl ?_
  rw [show nI k + 1 = nI (k + 1) from nI_1 _]
  refine am_putI 3 13 k_r3 (am_at hc_M_hold 11 rfl) rfl (by decide) rfl (by decide) k_ok3 (tw 319 rfl rfl) rfl rfl rfl rfl ?_
  exact am_vret (am_at hc_M_hold 12 rfl) rfl (cR_in rfl rfl)
set_option maxRecDepth 100000 in
set_option maxHeartbeats 4000000 in
theorem c_M_bundle {l : Launch} {x : am_X} {e L : Nat} {d : am_D} {T : Nat → Nat} {n : Nat} (hr : tm d T n) {p q v r m k : Nat} (hat : d 40 14 = nI p) (hp : p ≤ n) (hN : pr_num T n 3 p 0 = (q, v)) (hq : pr_dg T n q = false) (hL : pr_let T n 6 q 0 = (r, m)) (hr2 : pr_lt T n r = false) (hk : d 40 10 = nI k) (hk2 : k < 13) : cM l x (e + 2) L m_M_bundle [.ref 40] d (cR none (am_u (am_tr (am_u d 40 14 (nI r)) 47 (64 * k) 64 (fun s => zI (pr_bun v m s))) 40 10 (nI (k + 1)))) := by
  refine cM.go (by decide) (by simp [Value.category]) (Nat.le_of_ble_eq_true rfl) ?_
  have hn := hr.2.1
  have hq40 : q ≤ 40 := by have := pr_num_n T n 3 p 0 hp; rw [hN] at this; exact Nat.le_trans this hn
  have hm64 : m < 64 := by have := pr_let_lt T n 6 q 0 (by decide); rw [hL] at this; exact this
  have hD : ∀ v, tm (am_u d 40 14 v) T n := fun v => hr.u (by decide) (by decide)
  refine am_go cd_M_bundle hc_M_bundle 0 1 (pc' := 1) (L' := [some (.ref 40), none, none, none]) (st' := [.ref 40]) rfl ?_
  refine cW.callV1 4 [.int (nI v)] (st := []) [] (am_at hc_M_bundle 1 rfl) g_M_number (Or.inl (tw 417 rfl rfl)) (tw 419 rfl rfl) (tp 24 rfl rfl) 3 k_r3 rfl (by decide) rfl rfl rfl rfl (Nat.le_of_ble_eq_true rfl) (c_M_number hr hat (Nat.le_trans hp hn) hN hq) rfl rfl ?_
  refine am_go cd_M_bundle hc_M_bundle 2 3 (pc' := 7) (L' := [some (.ref 40), some (.int (nI v)), some (.int 0), none]) (st' := []) rfl ?_
  have hk' : am_u d 40 14 (nI r) 40 10 = nI k := (am_u_o (by decide)).trans hk
  generalize hD1 : am_u d 40 14 (nI r) = D1 at hk' ⊢
  have loop2 : ∀ j s, s + j = 64 → cW l x (e + 2) L m_M_bundle 50 [some (.ref 40), some (.int (nI v)), some (.int (nI m)), some (.int (nI s))] [] (am_tr D1 47 (64 * k) s (fun s => zI (pr_bun v m s))) (cR none (am_u (am_tr D1 47 (64 * k) 64 (fun s => zI (pr_bun v m s))) 40 10 (nI (k + 1)))) := by
    intro j
    induction j with
    | zero =>
      intro s hs
      have hs64 : s = 64 := by omega
      subst hs64
      refine am_go cd_M_bundle hc_M_bundle 31 2 (pc' := 53) (L' := [some (.ref 40), some (.int (nI v)), some (.int (nI m)), some (.int (nI 64))]) (st' := [.int 64, .int (nI 64)]) rfl ?_
      refine am_icmp_ge 88 (am_at hc_M_bundle 33 rfl) (by decide) (fun q1 => ?_) (fun q1 => absurd (nI_le (a := 64) (b := 64) (by omega) (by omega)) q1)
      refine am_go cd_M_bundle hc_M_bundle 53 2 (pc' := 90) (L' := [some (.ref 40), some (.int (nI v)), some (.int (nI m)), some (.int (nI 64))]) (st' := [.ref 40, .ref 40]) rfl ?_
      refine am_getf 3 10 k_r3 (am_at hc_M_bundle 55 rfl) rfl (by decide) rfl (by decide) k_ok3 (Or.inl (tw 316 rfl rfl)) (congrArg Value.int ((congrFun (am_tr_ne (by decide)) 10).trans hk')) ?_
      refine am_go cd_M_bundle hc_M_bundle 56 2 (pc' := 95) (L' := [some (.ref 40), some (.int (nI v)), some (.int (nI m)), some (.int (nI 64))]) (st' := [.int (nI k + 1), .ref 40]) rfl ?_
      rw [show nI k + 1 = nI (k + 1) from nI_1 _]
      refine am_putI 3 10 k_r3 (am_at hc_M_bundle 58 rfl) rfl (by decide) rfl (by decide) k_ok3 (tw 316 rfl rfl) rfl rfl rfl rfl ?_
      exact am_vret (am_at hc_M_bundle 59 rfl) rfl (cR_in rfl rfl)
    | succ j ih =>
      intro s hs
      refine am_go cd_M_bundle hc_M_bundle 31 2 (pc' := 53) (L' := [some (.ref 40), some (.int (nI v)), some (.int (nI m)), some (.int (nI s))]) (st' := [.int 64, .int (nI s)]) rfl ?_
      refine am_icmp_ge 88 (am_at hc_M_bundle 33 rfl) (by decide) (fun q1 => absurd q1 (nI_ge (a := s) (b := 64) (by omega) (by omega))) (fun q1 => ?_)
      refine am_go cd_M_bundle hc_M_bundle 34 1 (pc' := 57) (L' := [some (.ref 40), some (.int (nI v)), some (.int (nI m)), some (.int (nI s))]) (st' := [.ref 40]) rfl ?_
      refine am_getf 3 9 k_r3 (am_at hc_M_bundle 35 rfl) rfl (by decide) rfl (by decide) k_ok3 (Or.inl (tw 315 rfl rfl)) rfl ?_
      refine am_go cd_M_bundle hc_M_bundle 36 2 (pc' := 63) (L' := [some (.ref 40), some (.int (nI v)), some (.int (nI m)), some (.int (nI s))]) (st' := [.ref 40, .int 64, .ref 47]) rfl ?_
      refine am_getf 3 10 k_r3 (am_at hc_M_bundle 38 rfl) rfl (by decide) rfl (by decide) k_ok3 (Or.inl (tw 316 rfl rfl)) (congrArg Value.int ((congrFun (am_tr_ne (by decide)) 10).trans hk')) ?_
      refine am_go cd_M_bundle hc_M_bundle 39 1 (pc' := 67) (L' := [some (.ref 40), some (.int (nI v)), some (.int (nI m)), some (.int (nI s))]) (st' := [.int (64 * nI k), .ref 47]) rfl ?_
      rw [show 64 * nI k = nI (64 * k) from pk_mul 64 k]
      refine am_go cd_M_bundle hc_M_bundle 40 2 (pc' := 69) (L' := [some (.ref 40), some (.int (nI v)), some (.int (nI m)), some (.int (nI s))]) (st' := [.int (nI (64 * k) + nI s), .ref 47]) rfl ?_
      rw [show nI (64 * k) + nI s = nI (64 * k + s) from nI_add _ _]
      refine am_go cd_M_bundle hc_M_bundle 42 3 (pc' := 72) (L' := [some (.ref 40), some (.int (nI v)), some (.int (nI m)), some (.int (nI s))]) (st' := [.int (nI s &&& nI m), .int (nI (64 * k + s)), .ref 47]) rfl ?_
      rw [show nI s &&& nI m = nI (s &&& m) from nI_and _ _]
      refine am_go cd_M_bundle hc_M_bundle 45 1 (pc' := 73) (L' := [some (.ref 40), some (.int (nI v)), some (.int (nI m)), some (.int (nI s))]) (st' := [.int (nI m), .int (nI (s &&& m)), .int (nI (64 * k + s)), .ref 47]) rfl ?_
      have hle : s &&& m ≤ m := Nat.and_le_right
      refine am_icmp_ne 80 (am_at hc_M_bundle 46 rfl) (by decide) (fun q2 => ?_) (fun q2 => ?_)
      · have hne : ¬ (s &&& m = m) := fun z => q2 (by rw [z])
        refine am_go cd_M_bundle hc_M_bundle 49 1 (pc' := 81) (L' := [some (.ref 40), some (.int (nI v)), some (.int (nI m)), some (.int (nI s))]) (st' := [.int 0, .int (nI (64 * k + s)), .ref 47]) rfl ?_
        have eF : (fun s => zI (pr_bun v m s)) s = (0 : Int32) := by show zI (pr_bun v m s) = 0; unfold pr_bun; rw [if_neg hne]; rfl
        refine am_congrS (st' := [.int ((fun s => zI (pr_bun v m s)) s), .int (nI (64 * k + s)), .ref 47]) (by rw [eF]) ?_
        refine am_iastore (64 * k + s) (am_at hc_M_bundle 50 rfl) rfl (by decide) rfl (by show 64 * k + s < 832; omega) (Nat.le_of_ble_eq_true rfl) ?_
        rw [am_tr_s D1 47 (64 * k) s (fun s => zI (pr_bun v m s))]
        refine am_go cd_M_bundle hc_M_bundle 51 2 (pc' := 50) (L' := [some (.ref 40), some (.int (nI v)), some (.int (nI m)), some (.int (nI s + 1))]) (st' := []) rfl ?_
        rw [nI_1]
        exact ih (s + 1) (by omega)
      · have hne : s &&& m = m := (nI_eq (by omega) (by omega)).mp q2
        refine am_go cd_M_bundle hc_M_bundle 47 2 (pc' := 81) (L' := [some (.ref 40), some (.int (nI v)), some (.int (nI m)), some (.int (nI s))]) (st' := [.int (nI v), .int (nI (64 * k + s)), .ref 47]) rfl ?_
        have eF : (fun s => zI (pr_bun v m s)) s = nI v := by show zI (pr_bun v m s) = nI v; unfold pr_bun; rw [if_pos hne, nI_zI]
        refine am_congrS (st' := [.int ((fun s => zI (pr_bun v m s)) s), .int (nI (64 * k + s)), .ref 47]) (by rw [eF]) ?_
        refine am_iastore (64 * k + s) (am_at hc_M_bundle 50 rfl) rfl (by decide) rfl (by show 64 * k + s < 832; omega) (Nat.le_of_ble_eq_true rfl) ?_
        rw [am_tr_s D1 47 (64 * k) s (fun s => zI (pr_bun v m s))]
        refine am_go cd_M_bundle hc_M_bundle 51 2 (pc' := 50) (L' := [some (.ref 40), some (.int (nI v)), some (.int (nI m)), some (.int (nI s + 1))]) (st' := []) rfl ?_
        rw [nI_1]
        exact ih (s + 1) (by omega)
  subst hD1
  have loop : ∀ j p0 m0, p0 ≤ 40 → pr_let T n j p0 m0 = (r, m) → cW l x (e + 2) L m_M_bundle 7 [some (.ref 40), some (.int (nI v)), some (.int (nI m0)), none] [] (am_u d 40 14 (nI p0)) (cR none (am_u (am_tr (am_u d 40 14 (nI r)) 47 (64 * k) 64 (fun s => zI (pr_bun v m s))) 40 10 (nI (k + 1)))) := by
    intro j
    induction j with
    | zero =>
      intro p0 m0 hp0 he
      cases he
      refine am_go cd_M_bundle hc_M_bundle 5 2 (pc' := 9) (L' := [some (.ref 40), some (.int (nI v)), some (.int (nI m)), none]) (st' := [.ref 40, .ref 40]) rfl ?_
      refine am_getf 3 14 k_r3 (am_at hc_M_bundle 7 rfl) rfl (by decide) rfl (by decide) k_ok3 (Or.inl (tw 320 rfl rfl)) (congrArg Value.int am_u_i) ?_
      refine cW.callV1 15 [.int (bI (pr_lt T n r))] (st := []) [.int (nI r)] (am_at hc_M_bundle 8 rfl) g_M_letter (Or.inl (tw 405 rfl rfl)) (tw 407 rfl rfl) (tp 21 rfl rfl) 3 k_r3 rfl (by decide) rfl rfl rfl rfl (Nat.le_of_ble_eq_true rfl) (c_M_letter (hD _) (by omega)) rfl rfl ?_
      rw [hr2]
      simp only [bI_f]
      refine am_if_eq 48 (am_at hc_M_bundle 9 rfl) (by decide) (fun q1 => ?_) (fun q1 => absurd rfl q1)
      refine am_go cd_M_bundle hc_M_bundle 29 2 (pc' := 50) (L' := [some (.ref 40), some (.int (nI v)), some (.int (nI m)), some (.int 0)]) (st' := []) rfl ?_
      have h0 := loop2 64 0 rfl
      rw [am_tr_0] at h0
      exact h0
    | succ j ih =>
      intro p0 m0 hp0 he
      unfold pr_let at he
      refine am_go cd_M_bundle hc_M_bundle 5 2 (pc' := 9) (L' := [some (.ref 40), some (.int (nI v)), some (.int (nI m0)), none]) (st' := [.ref 40, .ref 40]) rfl ?_
      refine am_getf 3 14 k_r3 (am_at hc_M_bundle 7 rfl) rfl (by decide) rfl (by decide) k_ok3 (Or.inl (tw 320 rfl rfl)) (congrArg Value.int am_u_i) ?_
      refine cW.callV1 15 [.int (bI (pr_lt T n p0))] (st := []) [.int (nI p0)] (am_at hc_M_bundle 8 rfl) g_M_letter (Or.inl (tw 405 rfl rfl)) (tw 407 rfl rfl) (tp 21 rfl rfl) 3 k_r3 rfl (by decide) rfl rfl rfl rfl (Nat.le_of_ble_eq_true rfl) (c_M_letter (hD _) (by omega)) rfl rfl ?_
      by_cases hg : pr_lt T n p0 = true ∧ m0.testBit (T p0 - 97) = false
      · rw [if_pos hg] at he
        rw [hg.1]
        obtain ⟨z1, z2, z3⟩ := pr_lt_lt hg.1
        simp only [bI_t]
        refine am_if_eq 48 (am_at hc_M_bundle 9 rfl) (by decide) (fun q1 => absurd q1 (by decide)) (fun q1 => ?_)
        refine am_go cd_M_bundle hc_M_bundle 10 3 (pc' := 21) (L' := [some (.ref 40), some (.int (nI v)), some (.int (nI m0)), none]) (st' := [.ref 40, .int 1, .int (nI m0)]) rfl ?_
        refine am_getf 3 6 k_r3 (am_at hc_M_bundle 13 rfl) rfl (by decide) rfl (by decide) k_ok3 (Or.inl (tw 312 rfl rfl)) rfl ?_
        refine am_go cd_M_bundle hc_M_bundle 14 1 (pc' := 25) (L' := [some (.ref 40), some (.int (nI v)), some (.int (nI m0)), none]) (st' := [.ref 40, .ref 44, .int 1, .int (nI m0)]) rfl ?_
        refine am_getf 3 14 k_r3 (am_at hc_M_bundle 15 rfl) rfl (by decide) rfl (by decide) k_ok3 (Or.inl (tw 320 rfl rfl)) (congrArg Value.int am_u_i) ?_
        refine am_iaload (p0) (am_at hc_M_bundle 16 rfl) rfl (Or.inl (by decide)) rfl (by show p0 < 40; omega) (Nat.le_of_ble_eq_true rfl) ?_
        rw [show am_u d 40 14 (nI p0) 44 p0 = nI (T p0) from ((hD _).2.2 p0 z1).1]
        refine am_go cd_M_bundle hc_M_bundle 17 3 (pc' := 33) (L' := [some (.ref 40), some (.int (nI v)), some (.int (nI m0)), none]) (st' := [.int (1 <<< ((nI (T p0) - 97) &&& 31)), .int (nI m0)]) rfl ?_
        rw [nI_sh (T p0) z2 z3]
        refine am_go cd_M_bundle hc_M_bundle 20 1 (pc' := 34) (L' := [some (.ref 40), some (.int (nI v)), some (.int (nI m0)), none]) (st' := [.int (nI m0 ||| nI (2 ^ (T p0 - 97)))]) rfl ?_
        rw [show nI m0 ||| nI (2 ^ (T p0 - 97)) = nI (m0 ||| 2 ^ (T p0 - 97)) from nI_or _ _]
        refine am_go cd_M_bundle hc_M_bundle 21 3 (pc' := 37) (L' := [some (.ref 40), some (.int (nI v)), some (.int (nI (m0 ||| 2 ^ (T p0 - 97)))), none]) (st' := [.ref 40, .ref 40]) rfl ?_
        refine am_getf 3 14 k_r3 (am_at hc_M_bundle 24 rfl) rfl (by decide) rfl (by decide) k_ok3 (Or.inl (tw 320 rfl rfl)) (congrArg Value.int am_u_i) ?_
        refine am_go cd_M_bundle hc_M_bundle 25 2 (pc' := 42) (L' := [some (.ref 40), some (.int (nI v)), some (.int (nI (m0 ||| 2 ^ (T p0 - 97)))), none]) (st' := [.int (nI p0 + 1), .ref 40]) rfl ?_
        rw [show nI p0 + 1 = nI (p0 + 1) from nI_1 _]
        refine am_putI 3 14 k_r3 (am_at hc_M_bundle 27 rfl) rfl (by decide) rfl (by decide) k_ok3 (tw 320 rfl rfl) rfl rfl rfl rfl ?_
        rw [am_uu]
        refine am_go cd_M_bundle hc_M_bundle 28 1 (pc' := 7) (L' := [some (.ref 40), some (.int (nI v)), some (.int (nI (m0 ||| 2 ^ (T p0 - 97)))), none]) (st' := []) rfl ?_
        exact ih (p0 + 1) _ (by omega) he
      · rw [if_neg hg] at he
        cases he
        rw [hr2]
        simp only [bI_f]
        refine am_if_eq 48 (am_at hc_M_bundle 9 rfl) (by decide) (fun q1 => ?_) (fun q1 => absurd rfl q1)
        refine am_go cd_M_bundle hc_M_bundle 29 2 (pc' := 50) (L' := [some (.ref 40), some (.int (nI v)), some (.int (nI m)), some (.int 0)]) (st' := []) rfl ?_
        have h0 := loop2 64 0 rfl
        rw [am_tr_0] at h0
        exact h0
  exact loop 6 q 0 hq40 hL
end
section
/-- one of the 4096 pairs of sets -/
def cnd (x y : Tb) (s t : Nat) : Int := if (t &&& 63) &&& (t / 64) = 0 ∧ (t &&& 63) &&& s = t &&& 63 ∧ (t / 64) &&& s = t / 64 then x (t &&& 63) + y (t / 64) else 0
theorem dis_all : (List.range 64).all (fun s => (List.range 64).all (fun a => !(decide (a &&& s = a)) || (List.range 64).all (fun b => !(decide (b &&& s = b) && decide (a &&& b = 0)) || decide (b &&& (s - a) = b)))) = true := by decide +kernel
theorem dis_sub {s a b : Nat} (hs : s < 64) (h1 : a &&& b = 0) (h2 : a &&& s = a) (h3 : b &&& s = b) : b &&& (s - a) = b := by
  have h := List.all_eq_true.mp (List.all_eq_true.mp dis_all s (List.mem_range.mpr hs)) a (List.mem_range.mpr (sub_lt hs h2))
  simp only [h2, decide_true, Bool.not_true, Bool.false_or] at h
  have h' := List.all_eq_true.mp h b (List.mem_range.mpr (sub_lt hs h3))
  simpa [h1, h3] using h'
theorem dis_back : (List.range 64).all (fun s => (List.range 64).all (fun a => !(decide (a &&& s = a)) || (decide (a &&& (s - a) = 0) && decide ((s - a) &&& s = s - a) && decide ((a + 64 * (s - a)) &&& 63 = a) && decide ((a + 64 * (s - a)) / 64 = s - a)))) = true := by decide +kernel
theorem cnd_le {x y : Tb} (hy : tb_ok y) (hj : tb_ok (jn x y)) {s t : Nat} (hs : s < 64) : cnd x y s t ≤ jn x y s := by
  unfold cnd
  split
  · rename_i h
    obtain ⟨h1, h2, h3⟩ := h
    have g1 := dis_sub hs h1 h2 h3
    have g2 := hy.2 (t / 64) (s - (t &&& 63)) (by omega) g1
    have g3 := jn_ge x y hs h2
    omega
  · exact (hj.1 s hs).1
theorem cnd_at {x y : Tb} {s a : Nat} (hs : s < 64) (ha : a &&& s = a) : cnd x y s (a + 64 * (s - a)) = x a + y (s - a) := by
  have h := List.all_eq_true.mp (List.all_eq_true.mp dis_back s (List.mem_range.mpr hs)) a (List.mem_range.mpr (sub_lt hs ha))
  simp only [ha, decide_true, Bool.not_true, Bool.false_or, Bool.and_eq_true, decide_eq_true_eq] at h
  obtain ⟨⟨⟨h1, h2⟩, h3⟩, h4⟩ := h
  unfold cnd
  rw [h3, h4, if_pos ⟨h1, ha, h2⟩]
theorem jn_top {x y : Tb} {s : Nat} {m : Int} (hs : s < 64) (h1 : m ≤ jn x y s) (h2 : ∀ t, t < 4096 → cnd x y s t ≤ m) : m = jn x y s := by
  obtain ⟨p, hp, e⟩ := jn_is x y hs
  have hle := sub_le hp
  have := h2 (p + 64 * (s - p)) (by omega)
  rw [cnd_at hs hp] at this
  omega
theorem jn_l {x y : Tb} (hy : tb_ok y) {s : Nat} (hs : s < 64) : x s ≤ jn x y s := by
  have := jn_ge x y hs (Nat.and_self s)
  rw [Nat.sub_self, hy.zero] at this; omega
theorem jn_r {x y : Tb} (hx : tb_ok x) {s : Nat} (hs : s < 64) : y s ≤ jn x y s := by
  have := jn_ge x y hs (p := 0) (Nat.zero_and s)
  rw [Nat.sub_zero, hx.zero] at this; omega
theorem nI_shr6' : ∀ b, b < 64 → ∀ a, a < 64 → nI (64 * b + a) >>> ((6 : Int32) &&& 31) = nI b := by decide +kernel
theorem nI_shr6 (t : Nat) (ht : t < 4096) : nI t >>> ((6 : Int32) &&& 31) = nI (t / 64) := by
  have h := nI_shr6' (t / 64) (by omega) (t % 64) (by omega)
  rwa [Nat.div_add_mod] at h
theorem nI_nand : ∀ a, a < 64 → ∀ s, s < 64 → (nI a &&& (nI s ^^^ (-1 : Int32)) = 0 ↔ a &&& s = a) := by decide +kernel
theorem nI_and0 : ∀ a, a < 64 → ∀ s, s < 64 → (nI (a &&& s) = 0 ↔ a &&& s = 0) := by decide +kernel
theorem and63 (t : Nat) : t &&& 63 < 64 := Nat.lt_of_le_of_lt Nat.and_le_right (by decide)
theorem jw_43 (x y : Tb) : jw 43 x y = jn x y := by unfold jw; rw [if_pos rfl]
theorem jw_n {w : Nat} (h : ¬ w = 43) (x y : Tb) (s : Nat) : jw w x y s = max (x s) (y s) := by unfold jw; rw [if_neg h]
set_option maxRecDepth 100000 in
set_option maxHeartbeats 4000000 in
theorem c_M_join {l : Launch} {x : am_X} {e L : Nat} {d : am_D} {c k : Nat} {X Y : Tb} (hc : c < 128) (hk : d 40 10 = nI (k + 2)) (hk2 : k + 2 ≤ 13) (tx : tb_ok X) (ty : tb_ok Y) (hx : ∀ s, s < 64 → d 47 (64 * k + s) = zI (X s)) (hy : ∀ s, s < 64 → d 47 (64 * (k + 1) + s) = zI (Y s)) : cM l x (e + 0) L m_M_join [.ref 40, .int (nI c)] d (cR none (am_tr (am_tb (am_u d 40 10 (nI (k + 1))) 48 64 (fun s => zI (jw c X Y s))) 47 (64 * k) 64 (fun s => zI (jw c X Y s)))) := by
  refine cM.go (by decide) (by simp [Value.category]) (Nat.le_of_ble_eq_true rfl) ?_
  refine am_go cd_M_join hc_M_join 0 2 (pc' := 2) (L' := [some (.ref 40), some (.int (nI c)), none, none, none, none, none, none, none, none, none]) (st' := [.ref 40, .ref 40]) rfl ?_
  refine am_getf 3 10 k_r3 (am_at hc_M_join 2 rfl) rfl (by decide) rfl (by decide) k_ok3 (Or.inl (tw 316 rfl rfl)) (congrArg Value.int hk) ?_
  refine am_go cd_M_join hc_M_join 3 2 (pc' := 7) (L' := [some (.ref 40), some (.int (nI c)), none, none, none, none, none, none, none, none, none]) (st' := [.int (nI (k + 2) - 1), .ref 40]) rfl ?_
  rw [show nI (k + 2) - 1 = nI (k + 1) from pk_sub (a := k + 2) (b := 1) (by omega)]
  refine am_putI 3 10 k_r3 (am_at hc_M_join 5 rfl) rfl (by decide) rfl (by decide) k_ok3 (tw 316 rfl rfl) rfl rfl rfl rfl ?_
  have hk0 : am_u d 40 10 (nI (k + 1)) 40 10 = nI (k + 1) := am_u_i
  have hx0 : ∀ s, s < 64 → am_u d 40 10 (nI (k + 1)) 47 (64 * k + s) = zI (X s) := fun s hs => by rw [am_u_ne 47 (by decide)]; exact hx s hs
  have hy0 : ∀ s, s < 64 → am_u d 40 10 (nI (k + 1)) 47 (64 * (k + 1) + s) = zI (Y s) := fun s hs => by rw [am_u_ne 47 (by decide)]; exact hy s hs
  generalize am_u d 40 10 (nI (k + 1)) = D0 at hk0 hx0 hy0 ⊢
  refine am_go cd_M_join hc_M_join 6 2 (pc' := 13) (L' := [some (.ref 40), some (.int (nI c)), none, none, none, none, none, none, none, none, none]) (st' := [.ref 40, .int 64]) rfl ?_
  refine am_getf 3 10 k_r3 (am_at hc_M_join 8 rfl) rfl (by decide) rfl (by decide) k_ok3 (Or.inl (tw 316 rfl rfl)) (congrArg Value.int hk0) ?_
  refine am_go cd_M_join hc_M_join 9 2 (pc' := 18) (L' := [some (.ref 40), some (.int (nI c)), none, none, none, none, none, none, none, none, none]) (st' := [.int (nI (k + 1) - 1), .int 64]) rfl ?_
  rw [show nI (k + 1) - 1 = nI k from nI_pred k]
  refine am_go cd_M_join hc_M_join 11 1 (pc' := 19) (L' := [some (.ref 40), some (.int (nI c)), none, none, none, none, none, none, none, none, none]) (st' := [.int (64 * nI k)]) rfl ?_
  rw [show 64 * nI k = nI (64 * k) from pk_mul 64 k]
  refine am_go cd_M_join hc_M_join 12 3 (pc' := 23) (L' := [some (.ref 40), some (.int (nI c)), some (.int (nI (64 * k))), none, none, none, none, none, none, none, none]) (st' := [.ref 40, .int 64]) rfl ?_
  refine am_getf 3 10 k_r3 (am_at hc_M_join 15 rfl) rfl (by decide) rfl (by decide) k_ok3 (Or.inl (tw 316 rfl rfl)) (congrArg Value.int hk0) ?_
  refine am_go cd_M_join hc_M_join 16 1 (pc' := 27) (L' := [some (.ref 40), some (.int (nI c)), some (.int (nI (64 * k))), none, none, none, none, none, none, none, none]) (st' := [.int (64 * nI (k + 1))]) rfl ?_
  rw [show 64 * nI (k + 1) = nI (64 * (k + 1)) from pk_mul 64 (k + 1)]
  refine am_go cd_M_join hc_M_join 17 3 (pc' := 31) (L' := [some (.ref 40), some (.int (nI c)), some (.int (nI (64 * k))), some (.int (nI (64 * (k + 1)))), some (.int 0), none, none, none, none, none, none]) (st' := []) rfl ?_
  have hj := tb_jn tx ty
  have loop2 : ∀ j s, s + j = 64 → cW l x (e + 0) L m_M_join 218 [some (.ref 40), some (.int (nI c)), some (.int (nI (64 * k))), some (.int (nI (64 * (k + 1)))), some (.int (nI s)), none, none, none, none, none, none] [] (am_tr (am_tb D0 48 64 (fun s => zI (jw c X Y s))) 47 (64 * k) s (fun s => zI (jw c X Y s))) (cR none (am_tr (am_tb D0 48 64 (fun s => zI (jw c X Y s))) 47 (64 * k) 64 (fun s => zI (jw c X Y s)))) := by
    intro j
    induction j with
    | zero =>
      intro s hs
      have hs64 : s = 64 := by omega
      subst hs64
      refine am_go cd_M_join hc_M_join 122 2 (pc' := 222) (L' := [some (.ref 40), some (.int (nI c)), some (.int (nI (64 * k))), some (.int (nI (64 * (k + 1)))), some (.int (nI 64)), none, none, none, none, none, none]) (st' := [.int 64, .int (nI 64)]) rfl ?_
      refine am_icmp_ge 247 (am_at hc_M_join 124 rfl) (by decide) (fun q1 => ?_) (fun q1 => absurd (nI_le (a := 64) (b := 64) (by omega) (by omega)) q1)
      exact am_vret (am_at hc_M_join 137 rfl) rfl (cR_in rfl rfl)
    | succ j ih =>
      intro s hs
      refine am_go cd_M_join hc_M_join 122 2 (pc' := 222) (L' := [some (.ref 40), some (.int (nI c)), some (.int (nI (64 * k))), some (.int (nI (64 * (k + 1)))), some (.int (nI s)), none, none, none, none, none, none]) (st' := [.int 64, .int (nI s)]) rfl ?_
      refine am_icmp_ge 247 (am_at hc_M_join 124 rfl) (by decide) (fun q1 => absurd q1 (nI_ge (a := s) (b := 64) (by omega) (by omega))) (fun q1 => ?_)
      refine am_go cd_M_join hc_M_join 125 1 (pc' := 226) (L' := [some (.ref 40), some (.int (nI c)), some (.int (nI (64 * k))), some (.int (nI (64 * (k + 1)))), some (.int (nI s)), none, none, none, none, none, none]) (st' := [.ref 40]) rfl ?_
      refine am_getf 3 9 k_r3 (am_at hc_M_join 126 rfl) rfl (by decide) rfl (by decide) k_ok3 (Or.inl (tw 315 rfl rfl)) rfl ?_
      refine am_go cd_M_join hc_M_join 127 3 (pc' := 233) (L' := [some (.ref 40), some (.int (nI c)), some (.int (nI (64 * k))), some (.int (nI (64 * (k + 1)))), some (.int (nI s)), none, none, none, none, none, none]) (st' := [.int (nI (64 * k) + nI s), .ref 47]) rfl ?_
      rw [show nI (64 * k) + nI s = nI (64 * k + s) from nI_add _ _]
      refine am_go cd_M_join hc_M_join 130 1 (pc' := 234) (L' := [some (.ref 40), some (.int (nI c)), some (.int (nI (64 * k))), some (.int (nI (64 * (k + 1)))), some (.int (nI s)), none, none, none, none, none, none]) (st' := [.ref 40, .int (nI (64 * k + s)), .ref 47]) rfl ?_
      refine am_getf 3 11 k_r3 (am_at hc_M_join 131 rfl) rfl (by decide) rfl (by decide) k_ok3 (Or.inl (tw 317 rfl rfl)) rfl ?_
      refine am_go cd_M_join hc_M_join 132 1 (pc' := 239) (L' := [some (.ref 40), some (.int (nI c)), some (.int (nI (64 * k))), some (.int (nI (64 * (k + 1)))), some (.int (nI s)), none, none, none, none, none, none]) (st' := [.int (nI s), .ref 48, .int (nI (64 * k + s)), .ref 47]) rfl ?_
      refine am_iaload (s) (am_at hc_M_join 133 rfl) rfl (Or.inl (by decide)) rfl (by show s < 64; omega) (Nat.le_of_ble_eq_true rfl) ?_
      rw [show am_tr (am_tb D0 48 64 (fun s => zI (jw c X Y s))) 47 (64 * k) s (fun s => zI (jw c X Y s)) 48 s = (fun s => zI (jw c X Y s)) s from (congrFun (am_tr_ne (by decide)) s).trans (am_tb_lt (by omega))]
      refine am_iastore (64 * k + s) (am_at hc_M_join 134 rfl) rfl (by decide) rfl (by show 64 * k + s < 832; omega) (Nat.le_of_ble_eq_true rfl) ?_
      rw [am_tr_s (am_tb D0 48 64 (fun s => zI (jw c X Y s))) 47 (64 * k) s (fun s => zI (jw c X Y s))]
      refine am_go cd_M_join hc_M_join 135 2 (pc' := 218) (L' := [some (.ref 40), some (.int (nI c)), some (.int (nI (64 * k))), some (.int (nI (64 * (k + 1)))), some (.int (nI s + 1)), none, none, none, none, none, none]) (st' := []) rfl ?_
      rw [nI_1]
      exact ih (s + 1) (by omega)
  have loop : ∀ j s, s + j = 64 → cW l x (e + 0) L m_M_join 31 [some (.ref 40), some (.int (nI c)), some (.int (nI (64 * k))), some (.int (nI (64 * (k + 1)))), some (.int (nI s)), none, none, none, none, none, none] [] (am_tb D0 48 s (fun s => zI (jw c X Y s))) (cR none (am_tr (am_tb D0 48 64 (fun s => zI (jw c X Y s))) 47 (64 * k) 64 (fun s => zI (jw c X Y s)))) := by
    intro j
    induction j with
    | zero =>
      intro s hs
      have hs64 : s = 64 := by omega
      subst hs64
      refine am_go cd_M_join hc_M_join 20 2 (pc' := 35) (L' := [some (.ref 40), some (.int (nI c)), some (.int (nI (64 * k))), some (.int (nI (64 * (k + 1)))), some (.int (nI 64)), none, none, none, none, none, none]) (st' := [.int 64, .int (nI 64)]) rfl ?_
      refine am_icmp_ge 215 (am_at hc_M_join 22 rfl) (by decide) (fun q1 => ?_) (fun q1 => absurd (nI_le (a := 64) (b := 64) (by omega) (by omega)) q1)
      refine am_go cd_M_join hc_M_join 120 2 (pc' := 218) (L' := [some (.ref 40), some (.int (nI c)), some (.int (nI (64 * k))), some (.int (nI (64 * (k + 1)))), some (.int 0), none, none, none, none, none, none]) (st' := []) rfl ?_
      have h0 := loop2 64 0 rfl
      rw [am_tr_0] at h0
      exact h0
    | succ j ih =>
      intro s hs
      have hs64 : s < 64 := by omega
      have hDx : ∀ i, i < 64 → am_tb D0 48 s (fun s => zI (jw c X Y s)) 47 (64 * k + i) = zI (X i) := fun i hi => by rw [am_tb_ne (by decide)]; exact hx0 i hi
      have hDy : ∀ i, i < 64 → am_tb D0 48 s (fun s => zI (jw c X Y s)) 47 (64 * (k + 1) + i) = zI (Y i) := fun i hi => by rw [am_tb_ne (by decide)]; exact hy0 i hi
      have bX := fun i (hi : i < 64) => tx.b hi
      have bY := fun i (hi : i < 64) => ty.b hi
      have bJ := hj.b hs64
      have done : ∀ (tt : Option Value), cW l x (e + 0) L m_M_join 200 [some (.ref 40), some (.int (nI c)), some (.int (nI (64 * k))), some (.int (nI (64 * (k + 1)))), some (.int (nI s)), some (.int (zI (jw c X Y s))), tt, none, none, none, none] [] (am_tb D0 48 s (fun s => zI (jw c X Y s))) (cR none (am_tr (am_tb D0 48 64 (fun s => zI (jw c X Y s))) 47 (64 * k) 64 (fun s => zI (jw c X Y s)))) := by
        intro tt
        refine am_weak (L' := [some (.ref 40), some (.int (nI c)), some (.int (nI (64 * k))), some (.int (nI (64 * (k + 1)))), some (.int (nI s)), some (.int (zI (jw c X Y s))), none, none, none, none, none]) ⟨rfl, rfl, rfl, rfl, rfl, rfl, trivial⟩ ?_
        refine am_go cd_M_join hc_M_join 113 1 (pc' := 201) (L' := [some (.ref 40), some (.int (nI c)), some (.int (nI (64 * k))), some (.int (nI (64 * (k + 1)))), some (.int (nI s)), some (.int (zI (jw c X Y s))), none, none, none, none, none]) (st' := [.ref 40]) rfl ?_
        refine am_getf 3 11 k_r3 (am_at hc_M_join 114 rfl) rfl (by decide) rfl (by decide) k_ok3 (Or.inl (tw 317 rfl rfl)) rfl ?_
        refine am_go cd_M_join hc_M_join 115 2 (pc' := 208) (L' := [some (.ref 40), some (.int (nI c)), some (.int (nI (64 * k))), some (.int (nI (64 * (k + 1)))), some (.int (nI s)), some (.int (zI (jw c X Y s))), none, none, none, none, none]) (st' := [.int (zI (jw c X Y s)), .int (nI s), .ref 48]) rfl ?_
        refine am_iastore (s) (am_at hc_M_join 117 rfl) rfl (by decide) rfl (by show s < 64; omega) (Nat.le_of_ble_eq_true rfl) ?_
        rw [am_tb_s D0 48 s (fun s => zI (jw c X Y s))]
        refine am_go cd_M_join hc_M_join 118 2 (pc' := 31) (L' := [some (.ref 40), some (.int (nI c)), some (.int (nI (64 * k))), some (.int (nI (64 * (k + 1)))), some (.int (nI s + 1)), some (.int (zI (jw c X Y s))), none, none, none, none, none]) (st' := []) rfl ?_
        refine am_weak (L' := [some (.ref 40), some (.int (nI c)), some (.int (nI (64 * k))), some (.int (nI (64 * (k + 1)))), some (.int (nI s + 1)), none, none, none, none, none, none]) ⟨rfl, rfl, rfl, rfl, rfl, trivial⟩ ?_
        rw [nI_1]
        exact ih (s + 1) (by omega)
      have inner : c = 43 → ∀ q t m, t + q = 4096 → 0 ≤ m → m ≤ jn X Y s → (∀ t', t' < t → cnd X Y s t' ≤ m) → cW l x (e + 0) L m_M_join 85 [some (.ref 40), some (.int (nI c)), some (.int (nI (64 * k))), some (.int (nI (64 * (k + 1)))), some (.int (nI s)), some (.int (zI m)), some (.int (nI t)), none, none, none, none] [] (am_tb D0 48 s (fun s => zI (jw c X Y s))) (cR none (am_tr (am_tb D0 48 64 (fun s => zI (jw c X Y s))) 47 (64 * k) 64 (fun s => zI (jw c X Y s)))) := by
        intro hc q
        induction q with
        | zero =>
          intro t m ht hm0 hm hcn
          have ht4 : t = 4096 := by omega
          subst ht4
          refine am_go cd_M_join hc_M_join 52 2 (pc' := 90) (L' := [some (.ref 40), some (.int (nI c)), some (.int (nI (64 * k))), some (.int (nI (64 * (k + 1)))), some (.int (nI s)), some (.int (zI m)), some (.int (nI 4096)), none, none, none, none]) (st' := [.int 4096, .int (nI 4096)]) rfl ?_
          refine am_icmp_ge 200 (am_at hc_M_join 54 rfl) (by decide) (fun q1 => ?_) (fun q1 => absurd (nI_le (a := 4096) (b := 4096) (by omega) (by omega)) q1)
          have e0 : m = jw c X Y s := by rw [hc, jw_43]; exact jn_top hs64 hm hcn
          rw [e0]
          exact done _
        | succ q ihq =>
          intro t m ht hm0 hm hcn
          refine am_go cd_M_join hc_M_join 52 2 (pc' := 90) (L' := [some (.ref 40), some (.int (nI c)), some (.int (nI (64 * k))), some (.int (nI (64 * (k + 1)))), some (.int (nI s)), some (.int (zI m)), some (.int (nI t)), none, none, none, none]) (st' := [.int 4096, .int (nI t)]) rfl ?_
          refine am_icmp_ge 200 (am_at hc_M_join 54 rfl) (by decide) (fun q1 => absurd q1 (nI_ge (a := t) (b := 4096) (by omega) (by omega))) (fun q1 => ?_)
          refine am_go cd_M_join hc_M_join 55 2 (pc' := 96) (L' := [some (.ref 40), some (.int (nI c)), some (.int (nI (64 * k))), some (.int (nI (64 * (k + 1)))), some (.int (nI s)), some (.int (zI m)), some (.int (nI t)), none, none, none, none]) (st' := [.int 43, .int (nI c)]) rfl ?_
          refine am_icmp_ne 200 (am_at hc_M_join 57 rfl) (by decide) (fun q2 => absurd (by rw [hc]; rfl) q2) (fun q2 => ?_)
          refine am_go cd_M_join hc_M_join 58 3 (pc' := 104) (L' := [some (.ref 40), some (.int (nI c)), some (.int (nI (64 * k))), some (.int (nI (64 * (k + 1)))), some (.int (nI s)), some (.int (zI m)), some (.int (nI t)), none, none, none, none]) (st' := [.int (nI t &&& 63)]) rfl ?_
          rw [show nI t &&& 63 = nI (t &&& 63) from nI_and t 63]
          refine am_go cd_M_join hc_M_join 61 4 (pc' := 111) (L' := [some (.ref 40), some (.int (nI c)), some (.int (nI (64 * k))), some (.int (nI (64 * (k + 1)))), some (.int (nI s)), some (.int (zI m)), some (.int (nI t)), some (.int (nI (t &&& 63))), none, none, none]) (st' := [.int (nI t >>> (6 &&& 31))]) rfl ?_
          rw [show nI t >>> (6 &&& 31) = nI (t / 64) from nI_shr6 t (by omega)]
          refine am_go cd_M_join hc_M_join 65 4 (pc' := 118) (L' := [some (.ref 40), some (.int (nI c)), some (.int (nI (64 * k))), some (.int (nI (64 * (k + 1)))), some (.int (nI s)), some (.int (zI m)), some (.int (nI t)), some (.int (nI (t &&& 63))), some (.int (nI (t / 64))), none, none]) (st' := [.int (nI (t &&& 63) &&& nI (t / 64))]) rfl ?_
          rw [show nI (t &&& 63) &&& nI (t / 64) = nI ((t &&& 63) &&& (t / 64)) from nI_and _ _]
          have ha := and63 t
          have hb : t / 64 < 64 := by omega
          have hcl := cnd_le (x := X) ty hj (t := t) hs64
          have fin : 0 ≤ cnd X Y s t → cW l x (e + 0) L m_M_join 178 [some (.ref 40), some (.int (nI c)), some (.int (nI (64 * k))), some (.int (nI (64 * (k + 1)))), some (.int (nI s)), some (.int (zI m)), some (.int (nI t)), some (.int (nI (t &&& 63))), some (.int (nI (t / 64))), none, some (.int (zI (cnd X Y s t)))] [] (am_tb D0 48 s (fun s => zI (jw c X Y s))) (cR none (am_tr (am_tb D0 48 64 (fun s => zI (jw c X Y s))) 47 (64 * k) 64 (fun s => zI (jw c X Y s)))) := by
            intro h0
            refine am_go cd_M_join hc_M_join 104 2 (pc' := 182) (L' := [some (.ref 40), some (.int (nI c)), some (.int (nI (64 * k))), some (.int (nI (64 * (k + 1)))), some (.int (nI s)), some (.int (zI m)), some (.int (nI t)), some (.int (nI (t &&& 63))), some (.int (nI (t / 64))), none, some (.int (zI (cnd X Y s t)))]) (st' := [.int (zI m), .int (zI (cnd X Y s t))]) rfl ?_
            refine am_icmp_le 190 (am_at hc_M_join 106 rfl) (by decide) (fun qa => ?_) (fun qa => ?_)
            · have z := (zI_le (by omega) (by omega) (by omega) (by omega)).mp qa
              refine am_go cd_M_join hc_M_join 109 4 (pc' := 85) (L' := [some (.ref 40), some (.int (nI c)), some (.int (nI (64 * k))), some (.int (nI (64 * (k + 1)))), some (.int (nI s)), some (.int (zI m)), some (.int (nI t + 1)), some (.int (nI (t &&& 63))), some (.int (nI (t / 64))), none, some (.int (zI (cnd X Y s t)))]) (st' := []) rfl ?_
              refine am_weak (L' := [some (.ref 40), some (.int (nI c)), some (.int (nI (64 * k))), some (.int (nI (64 * (k + 1)))), some (.int (nI s)), some (.int (zI m)), some (.int (nI t + 1)), none, none, none, none]) ⟨rfl, rfl, rfl, rfl, rfl, rfl, rfl, trivial⟩ ?_
              rw [nI_1]
              exact ihq (t + 1) m (by omega) hm0 hm (fun t' ht' => (Nat.lt_or_ge t' t).elim (fun g => hcn t' g) (fun g => by rw [show t' = t by omega]; exact z))
            · have z : ¬ cnd X Y s t ≤ m := fun z => qa ((zI_le (by omega) (by omega) (by omega) (by omega)).mpr z)
              refine am_go cd_M_join hc_M_join 107 2 (pc' := 192) (L' := [some (.ref 40), some (.int (nI c)), some (.int (nI (64 * k))), some (.int (nI (64 * (k + 1)))), some (.int (nI s)), some (.int (zI m)), some (.int (nI t)), some (.int (nI (t &&& 63))), some (.int (nI (t / 64))), none, some (.int (zI (cnd X Y s t)))]) (st' := [.int (zI (cnd X Y s t))]) rfl ?_
              refine am_go cd_M_join hc_M_join 110 3 (pc' := 85) (L' := [some (.ref 40), some (.int (nI c)), some (.int (nI (64 * k))), some (.int (nI (64 * (k + 1)))), some (.int (nI s)), some (.int (zI (cnd X Y s t))), some (.int (nI t + 1)), some (.int (nI (t &&& 63))), some (.int (nI (t / 64))), none, some (.int (zI (cnd X Y s t)))]) (st' := []) rfl ?_
              refine am_weak (L' := [some (.ref 40), some (.int (nI c)), some (.int (nI (64 * k))), some (.int (nI (64 * (k + 1)))), some (.int (nI s)), some (.int (zI (cnd X Y s t))), some (.int (nI t + 1)), none, none, none, none]) ⟨rfl, rfl, rfl, rfl, rfl, rfl, rfl, trivial⟩ ?_
              rw [nI_1]
              exact ihq (t + 1) (cnd X Y s t) (by omega) h0 hcl (fun t' ht' => (Nat.lt_or_ge t' t).elim (fun g => Int.le_trans (hcn t' g) (by omega)) (fun g => by rw [show t' = t by omega]; exact Int.le_refl _))
          refine am_if_ne 145 (am_at hc_M_join 69 rfl) (by decide) (fun q3 => ?_) (fun q3 => ?_)
          · skip
            have e0 : cnd X Y s t = 0 := if_neg (fun z => q3 ((nI_and0 _ ha _ hb).mpr z.1))
            refine am_go cd_M_join hc_M_join 84 3 (pc' := 150) (L' := [some (.ref 40), some (.int (nI c)), some (.int (nI (64 * k))), some (.int (nI (64 * (k + 1)))), some (.int (nI s)), some (.int (zI m)), some (.int (nI t)), some (.int (nI (t &&& 63))), some (.int (nI (t / 64))), some (.int 0), none]) (st' := [.int 0]) rfl ?_
            refine am_if_eq 175 (am_at hc_M_join 87 rfl) (by decide) (fun qz => ?_) (fun qz => absurd rfl qz)
            refine am_go cd_M_join hc_M_join 102 2 (pc' := 178) (L' := [some (.ref 40), some (.int (nI c)), some (.int (nI (64 * k))), some (.int (nI (64 * (k + 1)))), some (.int (nI s)), some (.int (zI m)), some (.int (nI t)), some (.int (nI (t &&& 63))), some (.int (nI (t / 64))), some (.int 0), some (.int 0)]) (st' := []) rfl ?_
            refine am_weak (L' := [some (.ref 40), some (.int (nI c)), some (.int (nI (64 * k))), some (.int (nI (64 * (k + 1)))), some (.int (nI s)), some (.int (zI m)), some (.int (nI t)), some (.int (nI (t &&& 63))), some (.int (nI (t / 64))), none, some (.int 0)]) ⟨rfl, rfl, rfl, rfl, rfl, rfl, rfl, rfl, rfl, rfl, trivial⟩ ?_
            have h0 := fin (by omega)
            rw [e0] at h0
            exact h0
          · have p1 := (nI_and0 _ ha _ hb).mp q3
            refine am_go cd_M_join hc_M_join 70 5 (pc' := 128) (L' := [some (.ref 40), some (.int (nI c)), some (.int (nI (64 * k))), some (.int (nI (64 * (k + 1)))), some (.int (nI s)), some (.int (zI m)), some (.int (nI t)), some (.int (nI (t &&& 63))), some (.int (nI (t / 64))), none, none]) (st' := [.int (nI (t &&& 63) &&& (nI s ^^^ (-1)))]) rfl ?_
            refine am_if_ne 145 (am_at hc_M_join 75 rfl) (by decide) (fun q4 => ?_) (fun q4 => ?_)
            · skip
              have e0 : cnd X Y s t = 0 := if_neg (fun z => q4 ((nI_nand _ ha _ hs64).mpr z.2.1))
              refine am_go cd_M_join hc_M_join 84 3 (pc' := 150) (L' := [some (.ref 40), some (.int (nI c)), some (.int (nI (64 * k))), some (.int (nI (64 * (k + 1)))), some (.int (nI s)), some (.int (zI m)), some (.int (nI t)), some (.int (nI (t &&& 63))), some (.int (nI (t / 64))), some (.int 0), none]) (st' := [.int 0]) rfl ?_
              refine am_if_eq 175 (am_at hc_M_join 87 rfl) (by decide) (fun qz => ?_) (fun qz => absurd rfl qz)
              refine am_go cd_M_join hc_M_join 102 2 (pc' := 178) (L' := [some (.ref 40), some (.int (nI c)), some (.int (nI (64 * k))), some (.int (nI (64 * (k + 1)))), some (.int (nI s)), some (.int (zI m)), some (.int (nI t)), some (.int (nI (t &&& 63))), some (.int (nI (t / 64))), some (.int 0), some (.int 0)]) (st' := []) rfl ?_
              refine am_weak (L' := [some (.ref 40), some (.int (nI c)), some (.int (nI (64 * k))), some (.int (nI (64 * (k + 1)))), some (.int (nI s)), some (.int (zI m)), some (.int (nI t)), some (.int (nI (t &&& 63))), some (.int (nI (t / 64))), none, some (.int 0)]) ⟨rfl, rfl, rfl, rfl, rfl, rfl, rfl, rfl, rfl, rfl, trivial⟩ ?_
              have h0 := fin (by omega)
              rw [e0] at h0
              exact h0
            · have p2 := (nI_nand _ ha _ hs64).mp q4
              refine am_go cd_M_join hc_M_join 76 5 (pc' := 138) (L' := [some (.ref 40), some (.int (nI c)), some (.int (nI (64 * k))), some (.int (nI (64 * (k + 1)))), some (.int (nI s)), some (.int (zI m)), some (.int (nI t)), some (.int (nI (t &&& 63))), some (.int (nI (t / 64))), none, none]) (st' := [.int (nI (t / 64) &&& (nI s ^^^ (-1)))]) rfl ?_
              refine am_if_ne 145 (am_at hc_M_join 81 rfl) (by decide) (fun q5 => ?_) (fun q5 => ?_)
              · skip
                have e0 : cnd X Y s t = 0 := if_neg (fun z => q5 ((nI_nand _ hb _ hs64).mpr z.2.2))
                refine am_go cd_M_join hc_M_join 84 3 (pc' := 150) (L' := [some (.ref 40), some (.int (nI c)), some (.int (nI (64 * k))), some (.int (nI (64 * (k + 1)))), some (.int (nI s)), some (.int (zI m)), some (.int (nI t)), some (.int (nI (t &&& 63))), some (.int (nI (t / 64))), some (.int 0), none]) (st' := [.int 0]) rfl ?_
                refine am_if_eq 175 (am_at hc_M_join 87 rfl) (by decide) (fun qz => ?_) (fun qz => absurd rfl qz)
                refine am_go cd_M_join hc_M_join 102 2 (pc' := 178) (L' := [some (.ref 40), some (.int (nI c)), some (.int (nI (64 * k))), some (.int (nI (64 * (k + 1)))), some (.int (nI s)), some (.int (zI m)), some (.int (nI t)), some (.int (nI (t &&& 63))), some (.int (nI (t / 64))), some (.int 0), some (.int 0)]) (st' := []) rfl ?_
                refine am_weak (L' := [some (.ref 40), some (.int (nI c)), some (.int (nI (64 * k))), some (.int (nI (64 * (k + 1)))), some (.int (nI s)), some (.int (zI m)), some (.int (nI t)), some (.int (nI (t &&& 63))), some (.int (nI (t / 64))), none, some (.int 0)]) ⟨rfl, rfl, rfl, rfl, rfl, rfl, rfl, rfl, rfl, rfl, trivial⟩ ?_
                have h0 := fin (by omega)
                rw [e0] at h0
                exact h0
              · have p3 := (nI_nand _ hb _ hs64).mp q5
                refine am_go cd_M_join hc_M_join 82 2 (pc' := 146) (L' := [some (.ref 40), some (.int (nI c)), some (.int (nI (64 * k))), some (.int (nI (64 * (k + 1)))), some (.int (nI s)), some (.int (zI m)), some (.int (nI t)), some (.int (nI (t &&& 63))), some (.int (nI (t / 64))), none, none]) (st' := [.int 1]) rfl ?_
                refine am_go cd_M_join hc_M_join 85 2 (pc' := 150) (L' := [some (.ref 40), some (.int (nI c)), some (.int (nI (64 * k))), some (.int (nI (64 * (k + 1)))), some (.int (nI s)), some (.int (zI m)), some (.int (nI t)), some (.int (nI (t &&& 63))), some (.int (nI (t / 64))), some (.int 1), none]) (st' := [.int 1]) rfl ?_
                refine am_if_eq 175 (am_at hc_M_join 87 rfl) (by decide) (fun qz => absurd qz (by decide)) (fun qz => ?_)
                have e0 : cnd X Y s t = X (t &&& 63) + Y (t / 64) := if_pos ⟨p1, p2, p3⟩
                refine am_go cd_M_join hc_M_join 88 1 (pc' := 154) (L' := [some (.ref 40), some (.int (nI c)), some (.int (nI (64 * k))), some (.int (nI (64 * (k + 1)))), some (.int (nI s)), some (.int (zI m)), some (.int (nI t)), some (.int (nI (t &&& 63))), some (.int (nI (t / 64))), some (.int 1), none]) (st' := [.ref 40]) rfl ?_
                refine am_getf 3 9 k_r3 (am_at hc_M_join 89 rfl) rfl (by decide) rfl (by decide) k_ok3 (Or.inl (tw 315 rfl rfl)) rfl ?_
                refine am_go cd_M_join hc_M_join 90 3 (pc' := 161) (L' := [some (.ref 40), some (.int (nI c)), some (.int (nI (64 * k))), some (.int (nI (64 * (k + 1)))), some (.int (nI s)), some (.int (zI m)), some (.int (nI t)), some (.int (nI (t &&& 63))), some (.int (nI (t / 64))), some (.int 1), none]) (st' := [.int (nI (64 * k) + nI (t &&& 63)), .ref 47]) rfl ?_
                rw [show nI (64 * k) + nI (t &&& 63) = nI (64 * k + (t &&& 63)) from nI_add _ _]
                refine am_iaload (64 * k + (t &&& 63)) (am_at hc_M_join 93 rfl) rfl (Or.inl (by decide)) rfl (by show 64 * k + (t &&& 63) < 832; omega) (Nat.le_of_ble_eq_true rfl) ?_
                rw [show am_tb D0 48 s (fun s => zI (jw c X Y s)) 47 (64 * k + (t &&& 63)) = zI (X (t &&& 63)) from hDx _ ha]
                refine am_go cd_M_join hc_M_join 94 1 (pc' := 163) (L' := [some (.ref 40), some (.int (nI c)), some (.int (nI (64 * k))), some (.int (nI (64 * (k + 1)))), some (.int (nI s)), some (.int (zI m)), some (.int (nI t)), some (.int (nI (t &&& 63))), some (.int (nI (t / 64))), some (.int 1), none]) (st' := [.ref 40, .int (zI (X (t &&& 63)))]) rfl ?_
                refine am_getf 3 9 k_r3 (am_at hc_M_join 95 rfl) rfl (by decide) rfl (by decide) k_ok3 (Or.inl (tw 315 rfl rfl)) rfl ?_
                refine am_go cd_M_join hc_M_join 96 3 (pc' := 170) (L' := [some (.ref 40), some (.int (nI c)), some (.int (nI (64 * k))), some (.int (nI (64 * (k + 1)))), some (.int (nI s)), some (.int (zI m)), some (.int (nI t)), some (.int (nI (t &&& 63))), some (.int (nI (t / 64))), some (.int 1), none]) (st' := [.int (nI (64 * (k + 1)) + nI (t / 64)), .ref 47, .int (zI (X (t &&& 63)))]) rfl ?_
                rw [show nI (64 * (k + 1)) + nI (t / 64) = nI (64 * (k + 1) + t / 64) from nI_add _ _]
                refine am_iaload (64 * (k + 1) + t / 64) (am_at hc_M_join 99 rfl) rfl (Or.inl (by decide)) rfl (by show 64 * (k + 1) + t / 64 < 832; omega) (Nat.le_of_ble_eq_true rfl) ?_
                rw [show am_tb D0 48 s (fun s => zI (jw c X Y s)) 47 (64 * (k + 1) + t / 64) = zI (Y (t / 64)) from hDy _ hb]
                refine am_go cd_M_join hc_M_join 100 1 (pc' := 172) (L' := [some (.ref 40), some (.int (nI c)), some (.int (nI (64 * k))), some (.int (nI (64 * (k + 1)))), some (.int (nI s)), some (.int (zI m)), some (.int (nI t)), some (.int (nI (t &&& 63))), some (.int (nI (t / 64))), some (.int 1), none]) (st' := [.int (zI (X (t &&& 63)) + zI (Y (t / 64)))]) rfl ?_
                rw [show zI (X (t &&& 63)) + zI (Y (t / 64)) = zI (X (t &&& 63) + Y (t / 64)) from zI_add _ _]
                rw [show X (t &&& 63) + Y (t / 64) = cnd X Y s t from e0.symm]
                refine am_go cd_M_join hc_M_join 101 1 (pc' := 176) (L' := [some (.ref 40), some (.int (nI c)), some (.int (nI (64 * k))), some (.int (nI (64 * (k + 1)))), some (.int (nI s)), some (.int (zI m)), some (.int (nI t)), some (.int (nI (t &&& 63))), some (.int (nI (t / 64))), some (.int 1), none]) (st' := [.int (zI (cnd X Y s t))]) rfl ?_
                refine am_go cd_M_join hc_M_join 103 1 (pc' := 178) (L' := [some (.ref 40), some (.int (nI c)), some (.int (nI (64 * k))), some (.int (nI (64 * (k + 1)))), some (.int (nI s)), some (.int (zI m)), some (.int (nI t)), some (.int (nI (t &&& 63))), some (.int (nI (t / 64))), some (.int 1), some (.int (zI (cnd X Y s t)))]) (st' := []) rfl ?_
                refine am_weak (L' := [some (.ref 40), some (.int (nI c)), some (.int (nI (64 * k))), some (.int (nI (64 * (k + 1)))), some (.int (nI s)), some (.int (zI m)), some (.int (nI t)), some (.int (nI (t &&& 63))), some (.int (nI (t / 64))), none, some (.int (zI (cnd X Y s t)))]) ⟨rfl, rfl, rfl, rfl, rfl, rfl, rfl, rfl, rfl, rfl, trivial⟩ ?_
                exact fin (by have := bX _ ha; have := bY _ hb; omega)
      have gX := jn_l (x := X) ty hs64
      have gY := jn_r (y := Y) tx hs64
      have b1 := bX s hs64
      have b2 := bY s hs64
      have mid : cW l x (e + 0) L m_M_join 82 [some (.ref 40), some (.int (nI c)), some (.int (nI (64 * k))), some (.int (nI (64 * (k + 1)))), some (.int (nI s)), some (.int (zI (max (X s) (Y s)))), none, none, none, none, none] [] (am_tb D0 48 s (fun s => zI (jw c X Y s))) (cR none (am_tr (am_tb D0 48 64 (fun s => zI (jw c X Y s))) 47 (64 * k) 64 (fun s => zI (jw c X Y s)))) := by
        refine am_go cd_M_join hc_M_join 50 2 (pc' := 85) (L' := [some (.ref 40), some (.int (nI c)), some (.int (nI (64 * k))), some (.int (nI (64 * (k + 1)))), some (.int (nI s)), some (.int (zI (max (X s) (Y s)))), some (.int 0), none, none, none, none]) (st' := []) rfl ?_
        by_cases hc : c = 43
        · exact inner hc 4096 0 _ rfl (by omega) (by omega) (fun t' ht' => by omega)
        · skip
          refine am_go cd_M_join hc_M_join 52 2 (pc' := 90) (L' := [some (.ref 40), some (.int (nI c)), some (.int (nI (64 * k))), some (.int (nI (64 * (k + 1)))), some (.int (nI s)), some (.int (zI (max (X s) (Y s)))), some (.int 0), none, none, none, none]) (st' := [.int 4096, .int 0]) rfl ?_
          refine am_icmp_ge 200 (am_at hc_M_join 54 rfl) (by decide) (fun q1 => absurd q1 (by decide)) (fun q1 => ?_)
          refine am_go cd_M_join hc_M_join 55 2 (pc' := 96) (L' := [some (.ref 40), some (.int (nI c)), some (.int (nI (64 * k))), some (.int (nI (64 * (k + 1)))), some (.int (nI s)), some (.int (zI (max (X s) (Y s)))), some (.int 0), none, none, none, none]) (st' := [.int 43, .int (nI c)]) rfl ?_
          refine am_icmp_ne 200 (am_at hc_M_join 57 rfl) (by decide) (fun q2 => ?_) (fun q2 => absurd ((nI_eq (b := 43) (by omega) (by decide)).mp q2) hc)
          rw [← jw_n hc]
          exact done _
      refine am_go cd_M_join hc_M_join 20 2 (pc' := 35) (L' := [some (.ref 40), some (.int (nI c)), some (.int (nI (64 * k))), some (.int (nI (64 * (k + 1)))), some (.int (nI s)), none, none, none, none, none, none]) (st' := [.int 64, .int (nI s)]) rfl ?_
      refine am_icmp_ge 215 (am_at hc_M_join 22 rfl) (by decide) (fun q1 => absurd q1 (nI_ge (a := s) (b := 64) (by omega) (by omega))) (fun q1 => ?_)
      refine am_go cd_M_join hc_M_join 23 1 (pc' := 39) (L' := [some (.ref 40), some (.int (nI c)), some (.int (nI (64 * k))), some (.int (nI (64 * (k + 1)))), some (.int (nI s)), none, none, none, none, none, none]) (st' := [.ref 40]) rfl ?_
      refine am_getf 3 9 k_r3 (am_at hc_M_join 24 rfl) rfl (by decide) rfl (by decide) k_ok3 (Or.inl (tw 315 rfl rfl)) rfl ?_
      refine am_go cd_M_join hc_M_join 25 3 (pc' := 46) (L' := [some (.ref 40), some (.int (nI c)), some (.int (nI (64 * k))), some (.int (nI (64 * (k + 1)))), some (.int (nI s)), none, none, none, none, none, none]) (st' := [.int (nI (64 * k) + nI s), .ref 47]) rfl ?_
      rw [show nI (64 * k) + nI s = nI (64 * k + s) from nI_add _ _]
      refine am_iaload (64 * k + s) (am_at hc_M_join 28 rfl) rfl (Or.inl (by decide)) rfl (by show 64 * k + s < 832; omega) (Nat.le_of_ble_eq_true rfl) ?_
      rw [show am_tb D0 48 s (fun s => zI (jw c X Y s)) 47 (64 * k + s) = zI (X s) from hDx _ hs64]
      refine am_go cd_M_join hc_M_join 29 1 (pc' := 48) (L' := [some (.ref 40), some (.int (nI c)), some (.int (nI (64 * k))), some (.int (nI (64 * (k + 1)))), some (.int (nI s)), none, none, none, none, none, none]) (st' := [.ref 40, .int (zI (X s))]) rfl ?_
      refine am_getf 3 9 k_r3 (am_at hc_M_join 30 rfl) rfl (by decide) rfl (by decide) k_ok3 (Or.inl (tw 315 rfl rfl)) rfl ?_
      refine am_go cd_M_join hc_M_join 31 3 (pc' := 55) (L' := [some (.ref 40), some (.int (nI c)), some (.int (nI (64 * k))), some (.int (nI (64 * (k + 1)))), some (.int (nI s)), none, none, none, none, none, none]) (st' := [.int (nI (64 * (k + 1)) + nI s), .ref 47, .int (zI (X s))]) rfl ?_
      rw [show nI (64 * (k + 1)) + nI s = nI (64 * (k + 1) + s) from nI_add _ _]
      refine am_iaload (64 * (k + 1) + s) (am_at hc_M_join 34 rfl) rfl (Or.inl (by decide)) rfl (by show 64 * (k + 1) + s < 832; omega) (Nat.le_of_ble_eq_true rfl) ?_
      rw [show am_tb D0 48 s (fun s => zI (jw c X Y s)) 47 (64 * (k + 1) + s) = zI (Y s) from hDy _ hs64]
      refine am_icmp_le 71 (am_at hc_M_join 35 rfl) (by decide) (fun q2 => ?_) (fun q2 => ?_)
      · have z := (zI_le (by omega) (by omega) (by omega) (by omega)).mp q2
        refine am_go cd_M_join hc_M_join 43 1 (pc' := 72) (L' := [some (.ref 40), some (.int (nI c)), some (.int (nI (64 * k))), some (.int (nI (64 * (k + 1)))), some (.int (nI s)), none, none, none, none, none, none]) (st' := [.ref 40]) rfl ?_
        refine am_getf 3 9 k_r3 (am_at hc_M_join 44 rfl) rfl (by decide) rfl (by decide) k_ok3 (Or.inl (tw 315 rfl rfl)) rfl ?_
        refine am_go cd_M_join hc_M_join 45 3 (pc' := 79) (L' := [some (.ref 40), some (.int (nI c)), some (.int (nI (64 * k))), some (.int (nI (64 * (k + 1)))), some (.int (nI s)), none, none, none, none, none, none]) (st' := [.int (nI (64 * (k + 1)) + nI s), .ref 47]) rfl ?_
        rw [show nI (64 * (k + 1)) + nI s = nI (64 * (k + 1) + s) from nI_add _ _]
        refine am_iaload (64 * (k + 1) + s) (am_at hc_M_join 48 rfl) rfl (Or.inl (by decide)) rfl (by show 64 * (k + 1) + s < 832; omega) (Nat.le_of_ble_eq_true rfl) ?_
        rw [show am_tb D0 48 s (fun s => zI (jw c X Y s)) 47 (64 * (k + 1) + s) = zI (Y s) from hDy _ hs64]
        refine am_go cd_M_join hc_M_join 49 1 (pc' := 82) (L' := [some (.ref 40), some (.int (nI c)), some (.int (nI (64 * k))), some (.int (nI (64 * (k + 1)))), some (.int (nI s)), some (.int (zI (Y s))), none, none, none, none, none]) (st' := []) rfl ?_
        have h0 := mid
        rw [Int.max_eq_right z] at h0
        exact h0
      · have z : ¬ X s ≤ Y s := fun z => q2 ((zI_le (by omega) (by omega) (by omega) (by omega)).mpr z)
        refine am_go cd_M_join hc_M_join 36 1 (pc' := 60) (L' := [some (.ref 40), some (.int (nI c)), some (.int (nI (64 * k))), some (.int (nI (64 * (k + 1)))), some (.int (nI s)), none, none, none, none, none, none]) (st' := [.ref 40]) rfl ?_
        refine am_getf 3 9 k_r3 (am_at hc_M_join 37 rfl) rfl (by decide) rfl (by decide) k_ok3 (Or.inl (tw 315 rfl rfl)) rfl ?_
        refine am_go cd_M_join hc_M_join 38 3 (pc' := 67) (L' := [some (.ref 40), some (.int (nI c)), some (.int (nI (64 * k))), some (.int (nI (64 * (k + 1)))), some (.int (nI s)), none, none, none, none, none, none]) (st' := [.int (nI (64 * k) + nI s), .ref 47]) rfl ?_
        rw [show nI (64 * k) + nI s = nI (64 * k + s) from nI_add _ _]
        refine am_iaload (64 * k + s) (am_at hc_M_join 41 rfl) rfl (Or.inl (by decide)) rfl (by show 64 * k + s < 832; omega) (Nat.le_of_ble_eq_true rfl) ?_
        rw [show am_tb D0 48 s (fun s => zI (jw c X Y s)) 47 (64 * k + s) = zI (X s) from hDx _ hs64]
        refine am_go cd_M_join hc_M_join 42 1 (pc' := 80) (L' := [some (.ref 40), some (.int (nI c)), some (.int (nI (64 * k))), some (.int (nI (64 * (k + 1)))), some (.int (nI s)), none, none, none, none, none, none]) (st' := [.int (zI (X s))]) rfl ?_
        refine am_go cd_M_join hc_M_join 49 1 (pc' := 82) (L' := [some (.ref 40), some (.int (nI c)), some (.int (nI (64 * k))), some (.int (nI (64 * (k + 1)))), some (.int (nI s)), some (.int (zI (X s))), none, none, none, none, none]) (st' := []) rfl ?_
        have h0 := mid
        rw [Int.max_eq_left (by omega)] at h0
        exact h0
  have h0 := loop 64 0 rfl
  rw [am_tb_0] at h0
  exact h0
theorem rep.at {d : am_D} {ts : List Tb} {ws : List Nat} (h : rep d ts ws) {v : Int32} : rep (am_u d 40 14 v) ts ws := ⟨⟨(am_u_o (by decide)).trans h.1.1, h.1.2.1, h.1.2.2.to (fun j _ => congrFun (am_u_ne 47 (by decide)) j)⟩, (am_u_o (by decide)).trans h.2.1, h.2.2.1, h.2.2.2.to (fun j _ => congrFun (am_u_ne 49 (by decide)) j)⟩
set_option maxRecDepth 100000 in
set_option maxHeartbeats 4000000 in
theorem c_M_reduce {l : Launch} {x : am_X} {e L : Nat} {d : am_D} {all : Bool} {ts ts' : List Tb} {ws ws' : List Nat} (hR : Red all ts ws ts' ws') (hp : rep d ts ws) : cM l x (e + 1) L m_M_reduce [.ref 40, .int (bI all)] d (fun r d' => r = none ∧ rmF d d' ∧ rep d' ts' ws' ∧ d' 40 14 = d 40 14) := by
  refine cM.go (by decide) (by simp [Value.category]) (Nat.le_of_ble_eq_true rfl) ?_
  have loop : ∀ ws ts d0, Red all ts ws ts' ws' → rmF d d0 → rep d0 ts ws → d0 40 14 = d 40 14 → cW l x (e + 1) L m_M_reduce 0 [some (.ref 40), some (.int (bI all))] [] d0 (fun r d' => r = none ∧ rmF d d' ∧ rep d' ts' ws' ∧ d' 40 14 = d 40 14) := by
    intro ws0
    induction ws0 with
    | nil =>
      intro ts0 d0 hR hf hp hat
      obtain ⟨rfl, rfl⟩ := hR
      refine am_go cd_M_reduce hc_M_reduce 0 1 (pc' := 1) (L' := [some (.ref 40), some (.int (bI all))]) (st' := [.ref 40]) rfl ?_
      refine am_getf 3 13 k_r3 (am_at hc_M_reduce 1 rfl) rfl (by decide) rfl (by decide) k_ok3 (Or.inl (tw 319 rfl rfl)) (congrArg Value.int hp.2.1) ?_
      refine am_if_le 69 (am_at hc_M_reduce 2 rfl) (by decide) (fun q1 => ?_) (fun q1 => absurd (by decide) q1)
      exact am_vret (am_at hc_M_reduce 37 rfl) rfl ⟨rfl, rfl, rfl, hf, hp, hat⟩
    | cons c ws1 ih =>
      intro ts0 d0 hR hf hp hat
      have hwl : ws1.length < 40 := by have := hp.2.2.1; simp only [List.length_cons] at this; omega
      have hws : d0 40 13 = nI (ws1.length + 1) := hp.2.1
      have hw0 : d0 49 ws1.length = nI c := hp.2.2.2.1.1
      have hc128 := hp.2.2.2.1.2
      unfold Red at hR
      generalize hwk : ws1.length = k at hwl hws hw0
      have step : (∃ y x r, ts0 = y :: x :: r ∧ Red all (jw c x y :: r) ws1 ts' ws') → cW l x (e + 1) L m_M_reduce 43 [some (.ref 40), some (.int (bI all))] [] d0 (fun r d' => r = none ∧ rmF d d' ∧ rep d' ts' ws' ∧ d' 40 14 = d 40 14) := by
        rintro ⟨Y, X, rs, rfl, hR1⟩
        refine am_go cd_M_reduce hc_M_reduce 23 2 (pc' := 45) (L' := [some (.ref 40), some (.int (bI all))]) (st' := [.ref 40, .ref 40]) rfl ?_
        refine am_getf 3 13 k_r3 (am_at hc_M_reduce 25 rfl) rfl (by decide) rfl (by decide) k_ok3 (Or.inl (tw 319 rfl rfl)) (congrArg Value.int hws) ?_
        refine am_go cd_M_reduce hc_M_reduce 26 2 (pc' := 50) (L' := [some (.ref 40), some (.int (bI all))]) (st' := [.int (nI (k + 1) - 1), .ref 40]) rfl ?_
        rw [show nI (k + 1) - 1 = nI k from nI_pred k]
        refine am_putI 3 13 k_r3 (am_at hc_M_reduce 28 rfl) rfl (by decide) rfl (by decide) k_ok3 (tw 319 rfl rfl) rfl rfl rfl rfl ?_
        have hl : rs.length + 2 ≤ 13 := hp.1.2.1
        have k10 : am_u d0 40 13 (nI k) 40 10 = nI (rs.length + 2) := (am_u_o (by decide)).trans hp.1.1
        have tX := hp.1.2.2.2.1
        have tY := hp.1.2.2.1
        refine am_go cd_M_reduce hc_M_reduce 29 2 (pc' := 55) (L' := [some (.ref 40), some (.int (bI all))]) (st' := [.ref 40, .ref 40]) rfl ?_
        refine am_getf 3 12 k_r3 (am_at hc_M_reduce 31 rfl) rfl (by decide) rfl (by decide) k_ok3 (Or.inl (tw 318 rfl rfl)) rfl ?_
        refine am_go cd_M_reduce hc_M_reduce 32 1 (pc' := 59) (L' := [some (.ref 40), some (.int (bI all))]) (st' := [.ref 40, .ref 49, .ref 40]) rfl ?_
        refine am_getf 3 13 k_r3 (am_at hc_M_reduce 33 rfl) rfl (by decide) rfl (by decide) k_ok3 (Or.inl (tw 319 rfl rfl)) (congrArg Value.int am_u_i) ?_
        refine am_iaload (k) (am_at hc_M_reduce 34 rfl) rfl (Or.inl (by decide)) rfl (by show k < 40; omega) (Nat.le_of_ble_eq_true rfl) ?_
        rw [show am_u d0 40 13 (nI k) 49 k = nI c from (congrFun (am_u_ne 49 (by decide)) k).trans hw0]
        refine cW.callV1 66 [] (st := []) [.int (nI c)] (am_at hc_M_reduce 35 rfl) g_M_join (Or.inl (tw 429 rfl rfl)) (tw 431 rfl rfl) (tp 27 rfl rfl) 3 k_r3 rfl (by decide) rfl rfl rfl rfl (Nat.le_of_ble_eq_true rfl) (c_M_join hc128 k10 hl tX.1 tY.1 (fun s hs => (congrFun (am_u_ne 47 (by decide)) _).trans (tX.2 s hs)) (fun s hs => (congrFun (am_u_ne 47 (by decide)) _).trans (tY.2 s hs))) rfl rfl ?_
        refine am_go cd_M_reduce hc_M_reduce 36 1 (pc' := 0) (L' := [some (.ref 40), some (.int (bI all))]) (st' := []) rfl ?_
        refine ih (jw c X Y :: rs) _ hR1 ((((hf.trans (rmF.f (by decide))).trans (rmF.f (by decide))).trans rmF.s).trans rmF.r) ?_ ?_
        · refine ⟨⟨?_, by simp only [List.length_cons]; omega, ⟨tb_jw tX.1 tY.1, fun s hs => am_tr_in hs⟩, ?_⟩, ?_, by omega, ?_⟩
          · rw [am_tr_ne (by decide), am_tb_ne (by decide), am_u_i]; rfl
          · refine hp.1.2.2.2.2.to (fun j hj => ?_)
            rw [am_tr_out (Or.inl hj), am_tb_ne (by decide), am_u_ne 47 (by decide), am_u_ne 47 (by decide)]
          · rw [am_tr_ne (by decide), am_tb_ne (by decide), am_u_o (by decide), am_u_i, hwk]
          · refine hp.2.2.2.2.to (fun j hj => ?_)
            rw [am_tr_ne (by decide), am_tb_ne (by decide), am_u_ne 49 (by decide), am_u_ne 49 (by decide)]
        · rw [am_tr_ne (by decide), am_tb_ne (by decide), am_u_o (by decide), am_u_o (by decide)]; exact hat
      refine am_go cd_M_reduce hc_M_reduce 0 1 (pc' := 1) (L' := [some (.ref 40), some (.int (bI all))]) (st' := [.ref 40]) rfl ?_
      refine am_getf 3 13 k_r3 (am_at hc_M_reduce 1 rfl) rfl (by decide) rfl (by decide) k_ok3 (Or.inl (tw 319 rfl rfl)) (congrArg Value.int hws) ?_
      refine am_if_le 69 (am_at hc_M_reduce 2 rfl) (by decide) (fun q1 => absurd q1 (nI_nle (by omega) (by omega))) (fun q1 => ?_)
      refine am_go cd_M_reduce hc_M_reduce 3 1 (pc' := 8) (L' := [some (.ref 40), some (.int (bI all))]) (st' := [.ref 40]) rfl ?_
      refine am_getf 3 12 k_r3 (am_at hc_M_reduce 4 rfl) rfl (by decide) rfl (by decide) k_ok3 (Or.inl (tw 318 rfl rfl)) rfl ?_
      refine am_go cd_M_reduce hc_M_reduce 5 1 (pc' := 12) (L' := [some (.ref 40), some (.int (bI all))]) (st' := [.ref 40, .ref 49]) rfl ?_
      refine am_getf 3 13 k_r3 (am_at hc_M_reduce 6 rfl) rfl (by decide) rfl (by decide) k_ok3 (Or.inl (tw 319 rfl rfl)) (congrArg Value.int hws) ?_
      refine am_go cd_M_reduce hc_M_reduce 7 2 (pc' := 17) (L' := [some (.ref 40), some (.int (bI all))]) (st' := [.int (nI (k + 1) - 1), .ref 49]) rfl ?_
      rw [show nI (k + 1) - 1 = nI k from nI_pred k]
      refine am_iaload (k) (am_at hc_M_reduce 9 rfl) rfl (Or.inl (by decide)) rfl (by show k < 40; omega) (Nat.le_of_ble_eq_true rfl) ?_
      rw [show d0 49 k = nI c from hw0]
      refine am_go cd_M_reduce hc_M_reduce 10 1 (pc' := 20) (L' := [some (.ref 40), some (.int (bI all))]) (st' := [.int 43, .int (nI c)]) rfl ?_
      refine am_icmp_eq 43 (am_at hc_M_reduce 11 rfl) (by decide) (fun q2 => ?_) (fun q2 => ?_)
      · have z : c = 43 := (nI_eq (b := 43) (by omega) (by decide)).mp q2
        rw [if_pos (Or.inl z)] at hR
        exact step hR
      · have n43 : ¬ c = 43 := fun z => q2 (by rw [z]; rfl)
        refine am_go cd_M_reduce hc_M_reduce 12 1 (pc' := 24) (L' := [some (.ref 40), some (.int (bI all))]) (st' := [.int (bI all)]) rfl ?_
        cases hall : all with
        | false =>
          subst hall
          simp only [bI_f]
          refine am_if_eq 69 (am_at hc_M_reduce 13 rfl) (by decide) (fun q3 => ?_) (fun q3 => absurd rfl q3)
          rw [if_neg (fun z => z.elim n43 (fun z => by cases z.1))] at hR
          obtain ⟨rfl, rfl⟩ := hR
          exact am_vret (am_at hc_M_reduce 37 rfl) rfl ⟨rfl, rfl, rfl, hf, hp, hat⟩
        | true =>
          subst hall
          refine am_if_eq 69 (am_at hc_M_reduce 13 rfl) (by decide) (fun q3 => absurd q3 (by decide)) (fun q3 => ?_)
          refine am_go cd_M_reduce hc_M_reduce 14 1 (pc' := 28) (L' := [some (.ref 40), some (.int (bI true))]) (st' := [.ref 40]) rfl ?_
          refine am_getf 3 12 k_r3 (am_at hc_M_reduce 15 rfl) rfl (by decide) rfl (by decide) k_ok3 (Or.inl (tw 318 rfl rfl)) rfl ?_
          refine am_go cd_M_reduce hc_M_reduce 16 1 (pc' := 32) (L' := [some (.ref 40), some (.int (bI true))]) (st' := [.ref 40, .ref 49]) rfl ?_
          refine am_getf 3 13 k_r3 (am_at hc_M_reduce 17 rfl) rfl (by decide) rfl (by decide) k_ok3 (Or.inl (tw 319 rfl rfl)) (congrArg Value.int hws) ?_
          refine am_go cd_M_reduce hc_M_reduce 18 2 (pc' := 37) (L' := [some (.ref 40), some (.int (bI true))]) (st' := [.int (nI (k + 1) - 1), .ref 49]) rfl ?_
          rw [show nI (k + 1) - 1 = nI k from nI_pred k]
          refine am_iaload (k) (am_at hc_M_reduce 20 rfl) rfl (Or.inl (by decide)) rfl (by show k < 40; omega) (Nat.le_of_ble_eq_true rfl) ?_
          rw [show d0 49 k = nI c from hw0]
          refine am_go cd_M_reduce hc_M_reduce 21 1 (pc' := 40) (L' := [some (.ref 40), some (.int (bI true))]) (st' := [.int 94, .int (nI c)]) rfl ?_
          refine am_icmp_ne 69 (am_at hc_M_reduce 22 rfl) (by decide) (fun q4 => ?_) (fun q4 => ?_)
          · skip
            rw [if_neg (fun z => z.elim n43 (fun z => q4 (by rw [z.2]; rfl)))] at hR
            obtain ⟨rfl, rfl⟩ := hR
            exact am_vret (am_at hc_M_reduce 37 rfl) rfl ⟨rfl, rfl, rfl, hf, hp, hat⟩
          · have z : c = 94 := (nI_eq (b := 94) (by omega) (by decide)).mp q4
            rw [if_pos (Or.inr ⟨rfl, z⟩)] at hR
            exact step hR
  exact loop ws ts d hR rmF.rf hp rfl
end
section
/-- what one turn of the reference's reader does, for any claim P of its state; v the table it must end with -/
def rdR (T : Nat → Nat) (n : Nat) (v : Tb) (P : Nat → List Tb → List Nat → Prop) : Prop :=
  (∀ p ts ws q u r m, pr_dg T n p = true → pr_num T n 3 p 0 = (q, u) → pr_dg T n q = false → pr_let T n 6 q 0 = (r, m) → m ≠ 0 → pr_lt T n r = false → ts.length < 13 → P r (pr_bun u m :: ts) ws → P p ts ws) ∧
  (∀ p ts ws, p < n → T p = 40 → ws.length < 40 → P (p + 1) ts (40 :: ws) → P p ts ws) ∧
  (∀ p t ts ws q u, p < n → T p = 60 → pr_num T n 3 (p + 1) 0 = (q, u) → pr_dg T n q = false → P q ((fun s => min (t s) u) :: ts) ws → P p (t :: ts) ws) ∧
  (∀ p ts ws ts' ws' c, p < n → T p = 41 → Red true ts ws ts' (c :: ws') → P (p + 1) ts' ws' → P p ts ws) ∧
  (∀ p ts ws ts' ws', p < n → (T p = 43 ∨ T p = 94) → Red (decide (T p = 94)) ts ws ts' ws' → ws'.length < 40 → P (p + 1) ts' (T p :: ws') → P p ts ws) ∧
  (∀ ts ws t, Red true ts ws [t] [] → (∀ s, s < 64 → t s = v s) → P n ts ws)
set_option maxRecDepth 100000 in
set_option maxHeartbeats 4000000 in
theorem c_M_read {l : Launch} {x : am_X} {e L : Nat} {d : am_D} {T : Nat → Nat} {n : Nat} (hr : tm d T n) {v : Tb} (hP : ∀ P, rdR T n v P → P 0 [] []) : cM l x (e + 3) L m_M_read [.ref 40] d (fun r d' => r = none ∧ rmF d d' ∧ ∀ s, s < 64 → d' 47 s = zI (v s)) := by
  have hn := hr.2.1
  let P : Nat → List Tb → List Nat → Prop := fun p ts ws => ∀ d', rmF d d' → d' 40 14 = nI p → rep d' ts ws → cW l x (e + 3) L m_M_read 15 [some (.ref 40), none, none, none] [] d' (fun r d' => r = none ∧ rmF d d' ∧ ∀ s, s < 64 → d' 47 s = zI (v s))
  have r1 : ∀ p ts ws q u r m, pr_dg T n p = true → pr_num T n 3 p 0 = (q, u) → pr_dg T n q = false → pr_let T n 6 q 0 = (r, m) → m ≠ 0 → pr_lt T n r = false → ts.length < 13 → P r (pr_bun u m :: ts) ws → P p ts ws := by
    intro p ts ws q u r m hdg hN hq hLt hm hrl hl kk d1 hf hat hp
    have ht := hf.tm hr
    have hp13 := hp.1.2.1
    have hw40 := hp.2.2.1
    have hpn := (pr_dg_lt hdg).1
    refine am_go cd_M_read hc_M_read 9 1 (pc' := 16) (L' := [some (.ref 40), none, none, none]) (st' := [.ref 40]) rfl ?_
    refine am_getf 3 14 k_r3 (am_at hc_M_read 10 rfl) rfl (by decide) rfl (by decide) k_ok3 (Or.inl (tw 320 rfl rfl)) (congrArg Value.int hat) ?_
    refine am_go cd_M_read hc_M_read 11 1 (pc' := 20) (L' := [some (.ref 40), none, none, none]) (st' := [.ref 40, .int (nI p)]) rfl ?_
    refine am_getf 3 5 k_r3 (am_at hc_M_read 12 rfl) rfl (by decide) rfl (by decide) k_ok3 (Or.inl (tw 311 rfl rfl)) (congrArg Value.int ht.1) ?_
    refine am_icmp_ge 192 (am_at hc_M_read 13 rfl) (by decide) (fun q0 => absurd q0 (nI_ge (by omega) (by omega))) (fun q0 => ?_)
    refine am_go cd_M_read hc_M_read 14 1 (pc' := 27) (L' := [some (.ref 40), none, none, none]) (st' := [.ref 40]) rfl ?_
    refine am_getf 3 6 k_r3 (am_at hc_M_read 15 rfl) rfl (by decide) rfl (by decide) k_ok3 (Or.inl (tw 312 rfl rfl)) rfl ?_
    refine am_go cd_M_read hc_M_read 16 1 (pc' := 31) (L' := [some (.ref 40), none, none, none]) (st' := [.ref 40, .ref 44]) rfl ?_
    refine am_getf 3 14 k_r3 (am_at hc_M_read 17 rfl) rfl (by decide) rfl (by decide) k_ok3 (Or.inl (tw 320 rfl rfl)) (congrArg Value.int hat) ?_
    refine am_iaload (p) (am_at hc_M_read 18 rfl) rfl (Or.inl (by decide)) rfl (by show p < 40; omega) (Nat.le_of_ble_eq_true rfl) ?_
    rw [show d1 44 p = nI (T p) from (ht.2.2 p hpn).1]
    refine am_go cd_M_read hc_M_read 19 3 (pc' := 38) (L' := [some (.ref 40), some (.int (nI (T p))), none, none]) (st' := [.ref 40, .ref 40]) rfl ?_
    refine am_getf 3 14 k_r3 (am_at hc_M_read 22 rfl) rfl (by decide) rfl (by decide) k_ok3 (Or.inl (tw 320 rfl rfl)) (congrArg Value.int hat) ?_
    refine cW.callV1 44 [.int (bI (pr_dg T n p))] (st := []) [.int (nI p)] (am_at hc_M_read 23 rfl) g_M_digit (Or.inl (tw 401 rfl rfl)) (tw 403 rfl rfl) (tp 20 rfl rfl) 3 k_r3 rfl (by decide) rfl rfl rfl rfl (Nat.le_of_ble_eq_true rfl) (c_M_digit ht (by omega)) rfl rfl ?_
    rw [hdg]
    simp only [bI_t]
    refine am_if_eq 54 (am_at hc_M_read 24 rfl) (by decide) (fun q1 => absurd q1 (by decide)) (fun q1 => ?_)
    refine am_go cd_M_read hc_M_read 25 1 (pc' := 48) (L' := [some (.ref 40), some (.int (nI (T p))), none, none]) (st' := [.ref 40]) rfl ?_
    refine cW.callV1 51 [] (st := []) [] (am_at hc_M_read 26 rfl) g_M_bundle (Or.inl (tw 413 rfl rfl)) (tw 415 rfl rfl) (tp 23 rfl rfl) 3 k_r3 rfl (by decide) rfl rfl rfl rfl (Nat.le_of_ble_eq_true rfl) (c_M_bundle ht hat (by omega) hN hq hLt hrl hp.1.1 hl) rfl rfl ?_
    refine am_go cd_M_read hc_M_read 27 1 (pc' := 189) (L' := [some (.ref 40), some (.int (nI (T p))), none, none]) (st' := []) rfl ?_
    refine am_go cd_M_read hc_M_read 103 1 (pc' := 15) (L' := [some (.ref 40), some (.int (nI (T p))), none, none]) (st' := []) rfl ?_
    refine am_weak (L' := [some (.ref 40), none, none, none]) ⟨rfl, trivial⟩ ?_
    have hu : u ≤ 999 := by have := pr_num_999 T n p; rw [hN] at this; exact this
    refine kk _ (((hf.trans (rmF.f (by decide))).trans rmF.r).trans (rmF.f (by decide))) ?_ ⟨⟨am_u_i, hl, ⟨tb_bun hu hm, fun s hs => ?_⟩, ?_⟩, ?_, hw40, ?_⟩
    · rw [am_u_o (by decide), am_tr_ne (by decide)]; exact am_u_i
    · rw [am_u_ne 47 (by decide)]; exact am_tr_in hs
    · exact hp.1.2.2.to (fun j hj => by rw [am_u_ne 47 (by decide), am_tr_out (Or.inl hj), am_u_ne 47 (by decide)])
    · rw [am_u_o (by decide), am_tr_ne (by decide), am_u_o (by decide)]; exact hp.2.1
    · exact hp.2.2.2.to (fun j hj => by rw [am_u_ne 49 (by decide), am_tr_ne (by decide), am_u_ne 49 (by decide)])
  have r2 : ∀ p ts ws, p < n → T p = 40 → ws.length < 40 → P (p + 1) ts (40 :: ws) → P p ts ws := by
    intro p ts ws hpn hT hl kk d1 hf hat hp
    have ht := hf.tm hr
    have hp13 := hp.1.2.1
    have hw40 := hp.2.2.1
    refine am_go cd_M_read hc_M_read 9 1 (pc' := 16) (L' := [some (.ref 40), none, none, none]) (st' := [.ref 40]) rfl ?_
    refine am_getf 3 14 k_r3 (am_at hc_M_read 10 rfl) rfl (by decide) rfl (by decide) k_ok3 (Or.inl (tw 320 rfl rfl)) (congrArg Value.int hat) ?_
    refine am_go cd_M_read hc_M_read 11 1 (pc' := 20) (L' := [some (.ref 40), none, none, none]) (st' := [.ref 40, .int (nI p)]) rfl ?_
    refine am_getf 3 5 k_r3 (am_at hc_M_read 12 rfl) rfl (by decide) rfl (by decide) k_ok3 (Or.inl (tw 311 rfl rfl)) (congrArg Value.int ht.1) ?_
    refine am_icmp_ge 192 (am_at hc_M_read 13 rfl) (by decide) (fun q0 => absurd q0 (nI_ge (by omega) (by omega))) (fun q0 => ?_)
    refine am_go cd_M_read hc_M_read 14 1 (pc' := 27) (L' := [some (.ref 40), none, none, none]) (st' := [.ref 40]) rfl ?_
    refine am_getf 3 6 k_r3 (am_at hc_M_read 15 rfl) rfl (by decide) rfl (by decide) k_ok3 (Or.inl (tw 312 rfl rfl)) rfl ?_
    refine am_go cd_M_read hc_M_read 16 1 (pc' := 31) (L' := [some (.ref 40), none, none, none]) (st' := [.ref 40, .ref 44]) rfl ?_
    refine am_getf 3 14 k_r3 (am_at hc_M_read 17 rfl) rfl (by decide) rfl (by decide) k_ok3 (Or.inl (tw 320 rfl rfl)) (congrArg Value.int hat) ?_
    refine am_iaload (p) (am_at hc_M_read 18 rfl) rfl (Or.inl (by decide)) rfl (by show p < 40; omega) (Nat.le_of_ble_eq_true rfl) ?_
    rw [show d1 44 p = nI (T p) from (ht.2.2 p hpn).1]
    refine am_go cd_M_read hc_M_read 19 3 (pc' := 38) (L' := [some (.ref 40), some (.int (nI (T p))), none, none]) (st' := [.ref 40, .ref 40]) rfl ?_
    refine am_getf 3 14 k_r3 (am_at hc_M_read 22 rfl) rfl (by decide) rfl (by decide) k_ok3 (Or.inl (tw 320 rfl rfl)) (congrArg Value.int hat) ?_
    refine cW.callV1 44 [.int (bI (pr_dg T n p))] (st := []) [.int (nI p)] (am_at hc_M_read 23 rfl) g_M_digit (Or.inl (tw 401 rfl rfl)) (tw 403 rfl rfl) (tp 20 rfl rfl) 3 k_r3 rfl (by decide) rfl rfl rfl rfl (Nat.le_of_ble_eq_true rfl) (c_M_digit ht (by omega)) rfl rfl ?_
    have hdg : pr_dg T n p = false := decide_eq_false (fun z => by omega)
    rw [hdg]
    simp only [bI_f]
    refine am_if_eq 54 (am_at hc_M_read 24 rfl) (by decide) (fun q1 => ?_) (fun q1 => absurd rfl q1)
    refine am_go cd_M_read hc_M_read 28 2 (pc' := 56) (L' := [some (.ref 40), some (.int (nI (T p))), none, none]) (st' := [.ref 40, .ref 40]) rfl ?_
    refine am_getf 3 14 k_r3 (am_at hc_M_read 30 rfl) rfl (by decide) rfl (by decide) k_ok3 (Or.inl (tw 320 rfl rfl)) (congrArg Value.int hat) ?_
    refine am_go cd_M_read hc_M_read 31 2 (pc' := 61) (L' := [some (.ref 40), some (.int (nI (T p))), none, none]) (st' := [.int (nI p + 1), .ref 40]) rfl ?_
    rw [show nI p + 1 = nI (p + 1) from nI_1 _]
    refine am_putI 3 14 k_r3 (am_at hc_M_read 33 rfl) rfl (by decide) rfl (by decide) k_ok3 (tw 320 rfl rfl) rfl rfl rfl rfl ?_
    have ht1 : tm (am_u d1 40 14 (nI (p + 1))) T n := ht.u (by decide) (by decide)
    have hp1 : rep (am_u d1 40 14 (nI (p + 1))) ts ws := hp.at
    have hf1 : rmF d (am_u d1 40 14 (nI (p + 1))) := hf.trans (rmF.f (by decide))
    have hat1 : am_u d1 40 14 (nI (p + 1)) 40 14 = nI (p + 1) := am_u_i
    generalize am_u d1 40 14 (nI (p + 1)) = d2 at ht1 hp1 hf1 hat1 ⊢
    refine am_go cd_M_read hc_M_read 34 2 (pc' := 67) (L' := [some (.ref 40), some (.int (nI (T p))), none, none]) (st' := [.int 40, .int (nI (T p))]) rfl ?_
    refine am_icmp_ne 78 (am_at hc_M_read 36 rfl) (by decide) (fun q2 => absurd (by rw [hT]; rfl) q2) (fun q2 => ?_)
    refine am_go cd_M_read hc_M_read 37 2 (pc' := 72) (L' := [some (.ref 40), some (.int (nI (T p))), none, none]) (st' := [.int (nI (T p)), .ref 40]) rfl ?_
    rw [hT]
    refine cW.callV1 75 [] (st := []) [.int (nI 40)] (am_at hc_M_read 39 rfl) g_M_hold (Or.inl (tw 421 rfl rfl)) (tw 423 rfl rfl) (tp 25 rfl rfl) 3 k_r3 rfl (by decide) rfl rfl rfl rfl (Nat.le_of_ble_eq_true rfl) (c_M_hold (c := 40) hp1.2.1 hl) rfl rfl ?_
    refine am_go cd_M_read hc_M_read 40 1 (pc' := 189) (L' := [some (.ref 40), some (.int (nI 40)), none, none]) (st' := []) rfl ?_
    refine am_go cd_M_read hc_M_read 103 1 (pc' := 15) (L' := [some (.ref 40), some (.int (nI 40)), none, none]) (st' := []) rfl ?_
    refine am_weak (L' := [some (.ref 40), none, none, none]) ⟨rfl, trivial⟩ ?_
    have hpw : rep (am_u (am_u d2 49 ws.length (nI 40)) 40 13 (nI (ws.length + 1))) ts (40 :: ws) := ⟨⟨(am_u_o (by decide)).trans ((congrFun (am_u_ne 40 (by decide)) 10).trans hp1.1.1), hp1.1.2.1, hp1.1.2.2.to (fun j _ => by rw [am_u_ne 47 (by decide), am_u_ne 47 (by decide)])⟩, am_u_i, by simp only [List.length_cons]; omega, ⟨by rw [am_u_ne 49 (by decide)]; exact am_u_i, by omega⟩, hp1.2.2.2.to (fun j hj => by rw [am_u_ne 49 (by decide)]; exact am_u_o (fun z => by omega))⟩
    exact kk _ ((hf1.trans rmF.w).trans (rmF.f (by decide))) ((am_u_o (by decide)).trans ((congrFun (am_u_ne 40 (by decide)) 14).trans hat1)) hpw
  have r3 : ∀ p t ts ws q u, p < n → T p = 60 → pr_num T n 3 (p + 1) 0 = (q, u) → pr_dg T n q = false → P q ((fun s => min (t s) u) :: ts) ws → P p (t :: ts) ws := by
    intro p t ts ws q u hpn hT hN hq kk d1 hf hat hp
    have ht := hf.tm hr
    have hp13 := hp.1.2.1
    have hw40 := hp.2.2.1
    simp only [List.length_cons] at hp13
    refine am_go cd_M_read hc_M_read 9 1 (pc' := 16) (L' := [some (.ref 40), none, none, none]) (st' := [.ref 40]) rfl ?_
    refine am_getf 3 14 k_r3 (am_at hc_M_read 10 rfl) rfl (by decide) rfl (by decide) k_ok3 (Or.inl (tw 320 rfl rfl)) (congrArg Value.int hat) ?_
    refine am_go cd_M_read hc_M_read 11 1 (pc' := 20) (L' := [some (.ref 40), none, none, none]) (st' := [.ref 40, .int (nI p)]) rfl ?_
    refine am_getf 3 5 k_r3 (am_at hc_M_read 12 rfl) rfl (by decide) rfl (by decide) k_ok3 (Or.inl (tw 311 rfl rfl)) (congrArg Value.int ht.1) ?_
    refine am_icmp_ge 192 (am_at hc_M_read 13 rfl) (by decide) (fun q0 => absurd q0 (nI_ge (by omega) (by omega))) (fun q0 => ?_)
    refine am_go cd_M_read hc_M_read 14 1 (pc' := 27) (L' := [some (.ref 40), none, none, none]) (st' := [.ref 40]) rfl ?_
    refine am_getf 3 6 k_r3 (am_at hc_M_read 15 rfl) rfl (by decide) rfl (by decide) k_ok3 (Or.inl (tw 312 rfl rfl)) rfl ?_
    refine am_go cd_M_read hc_M_read 16 1 (pc' := 31) (L' := [some (.ref 40), none, none, none]) (st' := [.ref 40, .ref 44]) rfl ?_
    refine am_getf 3 14 k_r3 (am_at hc_M_read 17 rfl) rfl (by decide) rfl (by decide) k_ok3 (Or.inl (tw 320 rfl rfl)) (congrArg Value.int hat) ?_
    refine am_iaload (p) (am_at hc_M_read 18 rfl) rfl (Or.inl (by decide)) rfl (by show p < 40; omega) (Nat.le_of_ble_eq_true rfl) ?_
    rw [show d1 44 p = nI (T p) from (ht.2.2 p hpn).1]
    refine am_go cd_M_read hc_M_read 19 3 (pc' := 38) (L' := [some (.ref 40), some (.int (nI (T p))), none, none]) (st' := [.ref 40, .ref 40]) rfl ?_
    refine am_getf 3 14 k_r3 (am_at hc_M_read 22 rfl) rfl (by decide) rfl (by decide) k_ok3 (Or.inl (tw 320 rfl rfl)) (congrArg Value.int hat) ?_
    refine cW.callV1 44 [.int (bI (pr_dg T n p))] (st := []) [.int (nI p)] (am_at hc_M_read 23 rfl) g_M_digit (Or.inl (tw 401 rfl rfl)) (tw 403 rfl rfl) (tp 20 rfl rfl) 3 k_r3 rfl (by decide) rfl rfl rfl rfl (Nat.le_of_ble_eq_true rfl) (c_M_digit ht (by omega)) rfl rfl ?_
    have hdg : pr_dg T n p = false := decide_eq_false (fun z => by omega)
    rw [hdg]
    simp only [bI_f]
    refine am_if_eq 54 (am_at hc_M_read 24 rfl) (by decide) (fun q1 => ?_) (fun q1 => absurd rfl q1)
    refine am_go cd_M_read hc_M_read 28 2 (pc' := 56) (L' := [some (.ref 40), some (.int (nI (T p))), none, none]) (st' := [.ref 40, .ref 40]) rfl ?_
    refine am_getf 3 14 k_r3 (am_at hc_M_read 30 rfl) rfl (by decide) rfl (by decide) k_ok3 (Or.inl (tw 320 rfl rfl)) (congrArg Value.int hat) ?_
    refine am_go cd_M_read hc_M_read 31 2 (pc' := 61) (L' := [some (.ref 40), some (.int (nI (T p))), none, none]) (st' := [.int (nI p + 1), .ref 40]) rfl ?_
    rw [show nI p + 1 = nI (p + 1) from nI_1 _]
    refine am_putI 3 14 k_r3 (am_at hc_M_read 33 rfl) rfl (by decide) rfl (by decide) k_ok3 (tw 320 rfl rfl) rfl rfl rfl rfl ?_
    have ht1 : tm (am_u d1 40 14 (nI (p + 1))) T n := ht.u (by decide) (by decide)
    have hp1 : rep (am_u d1 40 14 (nI (p + 1))) (t :: ts) ws := hp.at
    have hf1 : rmF d (am_u d1 40 14 (nI (p + 1))) := hf.trans (rmF.f (by decide))
    have hat1 : am_u d1 40 14 (nI (p + 1)) 40 14 = nI (p + 1) := am_u_i
    generalize am_u d1 40 14 (nI (p + 1)) = d2 at ht1 hp1 hf1 hat1 ⊢
    refine am_go cd_M_read hc_M_read 34 2 (pc' := 67) (L' := [some (.ref 40), some (.int (nI (T p))), none, none]) (st' := [.int 40, .int (nI (T p))]) rfl ?_
    refine am_icmp_ne 78 (am_at hc_M_read 36 rfl) (by decide) (fun q2 => ?_) (fun q2 => absurd ((nI_eq (b := 40) (by omega) (by decide)).mp q2) (by omega))
    refine am_go cd_M_read hc_M_read 41 2 (pc' := 81) (L' := [some (.ref 40), some (.int (nI (T p))), none, none]) (st' := [.int 60, .int (nI (T p))]) rfl ?_
    refine am_icmp_ne 145 (am_at hc_M_read 43 rfl) (by decide) (fun q3 => absurd (by rw [hT]; rfl) q3) (fun q3 => ?_)
    refine am_go cd_M_read hc_M_read 44 1 (pc' := 85) (L' := [some (.ref 40), some (.int (nI (T p))), none, none]) (st' := [.ref 40]) rfl ?_
    refine cW.callV1 88 [.int (nI u)] (st := []) [] (am_at hc_M_read 45 rfl) g_M_number (Or.inl (tw 417 rfl rfl)) (tw 419 rfl rfl) (tp 24 rfl rfl) 3 k_r3 rfl (by decide) rfl rfl rfl rfl (Nat.le_of_ble_eq_true rfl) (c_M_number ht1 hat1 (by omega) hN hq) rfl rfl ?_
    refine am_go cd_M_read hc_M_read 46 3 (pc' := 92) (L' := [some (.ref 40), some (.int (nI (T p))), some (.int (nI u)), none]) (st' := [.ref 40, .int 64]) rfl ?_
    have hk0 : am_u d2 40 14 (nI q) 40 10 = nI (ts.length + 1) := (am_u_o (by decide)).trans hp1.1.1
    have hat3 : am_u d2 40 14 (nI q) 40 14 = nI q := am_u_i
    have hp3 : rep (am_u d2 40 14 (nI q)) (t :: ts) ws := hp1.at
    have hf3 : rmF d (am_u d2 40 14 (nI q)) := hf1.trans (rmF.f (by decide))
    generalize am_u d2 40 14 (nI q) = D at hk0 hat3 hp3 hf3 ⊢
    generalize hkk : ts.length = k at hk0 hp13
    have hu : u ≤ 999 := by have := pr_num_999 T n (p + 1); rw [hN] at this; exact this
    have hrow : ∀ s, s < 64 → D 47 (64 * k + s) = zI (t s) := by rw [← hkk]; exact hp3.1.2.2.1.2
    have tok := hp3.1.2.2.1.1
    refine am_getf 3 10 k_r3 (am_at hc_M_read 49 rfl) rfl (by decide) rfl (by decide) k_ok3 (Or.inl (tw 316 rfl rfl)) (congrArg Value.int hk0) ?_
    refine am_go cd_M_read hc_M_read 50 2 (pc' := 97) (L' := [some (.ref 40), some (.int (nI (T p))), some (.int (nI u)), none]) (st' := [.int (nI (k + 1) - 1), .int 64]) rfl ?_
    rw [show nI (k + 1) - 1 = nI k from nI_pred k]
    refine am_go cd_M_read hc_M_read 52 1 (pc' := 98) (L' := [some (.ref 40), some (.int (nI (T p))), some (.int (nI u)), none]) (st' := [.int (64 * nI k)]) rfl ?_
    rw [show 64 * nI k = nI (64 * k) from pk_mul 64 k]
    refine am_go cd_M_read hc_M_read 53 1 (pc' := 99) (L' := [some (.ref 40), some (.int (nI (T p))), some (.int (nI u)), some (.int (nI (64 * k)))]) (st' := []) rfl ?_
    have loop : ∀ j s, s + j = 64 → cW l x (e + 3) L m_M_read 99 [some (.ref 40), some (.int (nI (T p))), some (.int (nI u)), some (.int (nI (64 * k + s)))] [] (am_tr D 47 (64 * k) s (fun s => zI (min (t s) (u : Int)))) (fun r d' => r = none ∧ rmF d d' ∧ ∀ s, s < 64 → d' 47 s = zI (v s)) := by
      intro j
      induction j with
      | zero =>
        intro s hs
        have hs64 : s = 64 := by omega
        subst hs64
        refine am_go cd_M_read hc_M_read 54 3 (pc' := 103) (L' := [some (.ref 40), some (.int (nI (T p))), some (.int (nI u)), some (.int (nI (64 * k + 64)))]) (st' := [.ref 40, .int 64, .int (nI (64 * k + 64))]) rfl ?_
        refine am_getf 3 10 k_r3 (am_at hc_M_read 57 rfl) rfl (by decide) rfl (by decide) k_ok3 (Or.inl (tw 316 rfl rfl)) (congrArg Value.int ((congrFun (am_tr_ne (by decide)) 10).trans hk0)) ?_
        refine am_go cd_M_read hc_M_read 58 1 (pc' := 107) (L' := [some (.ref 40), some (.int (nI (T p))), some (.int (nI u)), some (.int (nI (64 * k + 64)))]) (st' := [.int (64 * nI (k + 1)), .int (nI (64 * k + 64))]) rfl ?_
        rw [show 64 * nI (k + 1) = nI (64 * (k + 1)) from pk_mul 64 (k + 1)]
        refine am_icmp_ge 142 (am_at hc_M_read 59 rfl) (by decide) (fun q4 => ?_) (fun q4 => absurd (nI_le (by omega) (by omega)) q4)
        refine am_go cd_M_read hc_M_read 78 1 (pc' := 189) (L' := [some (.ref 40), some (.int (nI (T p))), some (.int (nI u)), some (.int (nI (64 * k + 64)))]) (st' := []) rfl ?_
        refine am_go cd_M_read hc_M_read 103 1 (pc' := 15) (L' := [some (.ref 40), some (.int (nI (T p))), some (.int (nI u)), some (.int (nI (64 * k + 64)))]) (st' := []) rfl ?_
        refine am_weak (L' := [some (.ref 40), none, none, none]) ⟨rfl, trivial⟩ ?_
        refine kk _ (hf3.trans rmF.r) ((congrFun (am_tr_ne (by decide)) 14).trans hat3) ⟨⟨?_, ?_, ⟨tb_min tok, fun s hs => ?_⟩, ?_⟩, ?_, hw40, ?_⟩
        · rw [am_tr_ne (by decide)]; exact hp3.1.1
        · exact hp3.1.2.1
        · rw [hkk]; exact am_tr_in hs
        · exact hp3.1.2.2.2.to (fun j hj => am_tr_out (Or.inl (by omega)))
        · rw [am_tr_ne (by decide)]; exact hp3.2.1
        · exact hp3.2.2.2.to (fun j hj => congrFun (am_tr_ne (by decide)) j)
      | succ j ih =>
        intro s hs
        have bt := tok.b (s := s) (by omega)
        have hrs : am_tr D 47 (64 * k) s (fun s => zI (min (t s) (u : Int))) 47 (64 * k + s) = zI (t s) := (am_tr_out (Or.inr (Nat.le_refl _))).trans (hrow s (by omega))
        refine am_go cd_M_read hc_M_read 54 3 (pc' := 103) (L' := [some (.ref 40), some (.int (nI (T p))), some (.int (nI u)), some (.int (nI (64 * k + s)))]) (st' := [.ref 40, .int 64, .int (nI (64 * k + s))]) rfl ?_
        refine am_getf 3 10 k_r3 (am_at hc_M_read 57 rfl) rfl (by decide) rfl (by decide) k_ok3 (Or.inl (tw 316 rfl rfl)) (congrArg Value.int ((congrFun (am_tr_ne (by decide)) 10).trans hk0)) ?_
        refine am_go cd_M_read hc_M_read 58 1 (pc' := 107) (L' := [some (.ref 40), some (.int (nI (T p))), some (.int (nI u)), some (.int (nI (64 * k + s)))]) (st' := [.int (64 * nI (k + 1)), .int (nI (64 * k + s))]) rfl ?_
        rw [show 64 * nI (k + 1) = nI (64 * (k + 1)) from pk_mul 64 (k + 1)]
        refine am_icmp_ge 142 (am_at hc_M_read 59 rfl) (by decide) (fun q4 => absurd q4 (nI_ge (by omega) (by omega))) (fun q4 => ?_)
        refine am_go cd_M_read hc_M_read 60 1 (pc' := 111) (L' := [some (.ref 40), some (.int (nI (T p))), some (.int (nI u)), some (.int (nI (64 * k + s)))]) (st' := [.ref 40]) rfl ?_
        refine am_getf 3 9 k_r3 (am_at hc_M_read 61 rfl) rfl (by decide) rfl (by decide) k_ok3 (Or.inl (tw 315 rfl rfl)) rfl ?_
        refine am_go cd_M_read hc_M_read 62 2 (pc' := 116) (L' := [some (.ref 40), some (.int (nI (T p))), some (.int (nI u)), some (.int (nI (64 * k + s)))]) (st' := [.ref 40, .int (nI (64 * k + s)), .ref 47]) rfl ?_
        refine am_getf 3 9 k_r3 (am_at hc_M_read 64 rfl) rfl (by decide) rfl (by decide) k_ok3 (Or.inl (tw 315 rfl rfl)) rfl ?_
        refine am_go cd_M_read hc_M_read 65 1 (pc' := 120) (L' := [some (.ref 40), some (.int (nI (T p))), some (.int (nI u)), some (.int (nI (64 * k + s)))]) (st' := [.int (nI (64 * k + s)), .ref 47, .int (nI (64 * k + s)), .ref 47]) rfl ?_
        refine am_iaload (64 * k + s) (am_at hc_M_read 66 rfl) rfl (Or.inl (by decide)) rfl (by show 64 * k + s < 832; omega) (Nat.le_of_ble_eq_true rfl) ?_
        rw [show am_tr D 47 (64 * k) s (fun s => zI (min (t s) (u : Int))) 47 (64 * k + s) = zI (t s) from hrs]
        refine am_go cd_M_read hc_M_read 67 1 (pc' := 122) (L' := [some (.ref 40), some (.int (nI (T p))), some (.int (nI u)), some (.int (nI (64 * k + s)))]) (st' := [.int (nI u), .int (zI (t s)), .int (nI (64 * k + s)), .ref 47]) rfl ?_
        rw [nI_zI u]
        refine am_icmp_le 129 (am_at hc_M_read 68 rfl) (by decide) (fun q5 => ?_) (fun q5 => ?_)
        · have z := (zI_le (by omega) (by omega) (by omega) (by omega)).mp q5
          refine am_go cd_M_read hc_M_read 71 1 (pc' := 130) (L' := [some (.ref 40), some (.int (nI (T p))), some (.int (zI u)), some (.int (nI (64 * k + s)))]) (st' := [.ref 40, .int (nI (64 * k + s)), .ref 47]) rfl ?_
          refine am_getf 3 9 k_r3 (am_at hc_M_read 72 rfl) rfl (by decide) rfl (by decide) k_ok3 (Or.inl (tw 315 rfl rfl)) rfl ?_
          refine am_go cd_M_read hc_M_read 73 1 (pc' := 134) (L' := [some (.ref 40), some (.int (nI (T p))), some (.int (zI u)), some (.int (nI (64 * k + s)))]) (st' := [.int (nI (64 * k + s)), .ref 47, .int (nI (64 * k + s)), .ref 47]) rfl ?_
          refine am_iaload (64 * k + s) (am_at hc_M_read 74 rfl) rfl (Or.inl (by decide)) rfl (by show 64 * k + s < 832; omega) (Nat.le_of_ble_eq_true rfl) ?_
          rw [show am_tr D 47 (64 * k) s (fun s => zI (min (t s) (u : Int))) 47 (64 * k + s) = zI (t s) from hrs]
          refine am_congrS (st' := [.int ((fun s => zI (min (t s) (u : Int))) s), .int (nI (64 * k + s)), .ref 47]) (by show [_, _, _] = [_, _, _]; rw [show (fun s => zI (min (t s) (u : Int))) s = zI (t s) from congrArg zI (Int.min_eq_left z)]) ?_
          refine am_iastore (64 * k + s) (am_at hc_M_read 75 rfl) rfl (by decide) rfl (by show 64 * k + s < 832; omega) (Nat.le_of_ble_eq_true rfl) ?_
          rw [am_tr_s D 47 (64 * k) s (fun s => zI (min (t s) (u : Int)))]
          refine am_go cd_M_read hc_M_read 76 2 (pc' := 99) (L' := [some (.ref 40), some (.int (nI (T p))), some (.int (zI u)), some (.int (nI (64 * k + s) + 1))]) (st' := []) rfl ?_
          rw [nI_1, ← nI_zI u]
          exact ih (s + 1) (by omega)
        · have z : ¬ t s ≤ u := fun z => q5 ((zI_le (by omega) (by omega) (by omega) (by omega)).mpr z)
          refine am_go cd_M_read hc_M_read 69 2 (pc' := 135) (L' := [some (.ref 40), some (.int (nI (T p))), some (.int (zI u)), some (.int (nI (64 * k + s)))]) (st' := [.int (zI u), .int (nI (64 * k + s)), .ref 47]) rfl ?_
          refine am_congrS (st' := [.int ((fun s => zI (min (t s) (u : Int))) s), .int (nI (64 * k + s)), .ref 47]) (by show [_, _, _] = [_, _, _]; rw [show (fun s => zI (min (t s) (u : Int))) s = zI u from congrArg zI (Int.min_eq_right (by omega))]) ?_
          refine am_iastore (64 * k + s) (am_at hc_M_read 75 rfl) rfl (by decide) rfl (by show 64 * k + s < 832; omega) (Nat.le_of_ble_eq_true rfl) ?_
          rw [am_tr_s D 47 (64 * k) s (fun s => zI (min (t s) (u : Int)))]
          refine am_go cd_M_read hc_M_read 76 2 (pc' := 99) (L' := [some (.ref 40), some (.int (nI (T p))), some (.int (zI u)), some (.int (nI (64 * k + s) + 1))]) (st' := []) rfl ?_
          rw [nI_1, ← nI_zI u]
          exact ih (s + 1) (by omega)
    have h0 := loop 64 0 rfl
    rw [am_tr_0] at h0
    exact h0
  have r4 : ∀ p ts ws ts' ws' c, p < n → T p = 41 → Red true ts ws ts' (c :: ws') → P (p + 1) ts' ws' → P p ts ws := by
    intro p ts ws ts' ws' c hpn hT hR kk d1 hf hat hp
    have ht := hf.tm hr
    have hp13 := hp.1.2.1
    have hw40 := hp.2.2.1
    refine am_go cd_M_read hc_M_read 9 1 (pc' := 16) (L' := [some (.ref 40), none, none, none]) (st' := [.ref 40]) rfl ?_
    refine am_getf 3 14 k_r3 (am_at hc_M_read 10 rfl) rfl (by decide) rfl (by decide) k_ok3 (Or.inl (tw 320 rfl rfl)) (congrArg Value.int hat) ?_
    refine am_go cd_M_read hc_M_read 11 1 (pc' := 20) (L' := [some (.ref 40), none, none, none]) (st' := [.ref 40, .int (nI p)]) rfl ?_
    refine am_getf 3 5 k_r3 (am_at hc_M_read 12 rfl) rfl (by decide) rfl (by decide) k_ok3 (Or.inl (tw 311 rfl rfl)) (congrArg Value.int ht.1) ?_
    refine am_icmp_ge 192 (am_at hc_M_read 13 rfl) (by decide) (fun q0 => absurd q0 (nI_ge (by omega) (by omega))) (fun q0 => ?_)
    refine am_go cd_M_read hc_M_read 14 1 (pc' := 27) (L' := [some (.ref 40), none, none, none]) (st' := [.ref 40]) rfl ?_
    refine am_getf 3 6 k_r3 (am_at hc_M_read 15 rfl) rfl (by decide) rfl (by decide) k_ok3 (Or.inl (tw 312 rfl rfl)) rfl ?_
    refine am_go cd_M_read hc_M_read 16 1 (pc' := 31) (L' := [some (.ref 40), none, none, none]) (st' := [.ref 40, .ref 44]) rfl ?_
    refine am_getf 3 14 k_r3 (am_at hc_M_read 17 rfl) rfl (by decide) rfl (by decide) k_ok3 (Or.inl (tw 320 rfl rfl)) (congrArg Value.int hat) ?_
    refine am_iaload (p) (am_at hc_M_read 18 rfl) rfl (Or.inl (by decide)) rfl (by show p < 40; omega) (Nat.le_of_ble_eq_true rfl) ?_
    rw [show d1 44 p = nI (T p) from (ht.2.2 p hpn).1]
    refine am_go cd_M_read hc_M_read 19 3 (pc' := 38) (L' := [some (.ref 40), some (.int (nI (T p))), none, none]) (st' := [.ref 40, .ref 40]) rfl ?_
    refine am_getf 3 14 k_r3 (am_at hc_M_read 22 rfl) rfl (by decide) rfl (by decide) k_ok3 (Or.inl (tw 320 rfl rfl)) (congrArg Value.int hat) ?_
    refine cW.callV1 44 [.int (bI (pr_dg T n p))] (st := []) [.int (nI p)] (am_at hc_M_read 23 rfl) g_M_digit (Or.inl (tw 401 rfl rfl)) (tw 403 rfl rfl) (tp 20 rfl rfl) 3 k_r3 rfl (by decide) rfl rfl rfl rfl (Nat.le_of_ble_eq_true rfl) (c_M_digit ht (by omega)) rfl rfl ?_
    have hdg : pr_dg T n p = false := decide_eq_false (fun z => by omega)
    rw [hdg]
    simp only [bI_f]
    refine am_if_eq 54 (am_at hc_M_read 24 rfl) (by decide) (fun q1 => ?_) (fun q1 => absurd rfl q1)
    refine am_go cd_M_read hc_M_read 28 2 (pc' := 56) (L' := [some (.ref 40), some (.int (nI (T p))), none, none]) (st' := [.ref 40, .ref 40]) rfl ?_
    refine am_getf 3 14 k_r3 (am_at hc_M_read 30 rfl) rfl (by decide) rfl (by decide) k_ok3 (Or.inl (tw 320 rfl rfl)) (congrArg Value.int hat) ?_
    refine am_go cd_M_read hc_M_read 31 2 (pc' := 61) (L' := [some (.ref 40), some (.int (nI (T p))), none, none]) (st' := [.int (nI p + 1), .ref 40]) rfl ?_
    rw [show nI p + 1 = nI (p + 1) from nI_1 _]
    refine am_putI 3 14 k_r3 (am_at hc_M_read 33 rfl) rfl (by decide) rfl (by decide) k_ok3 (tw 320 rfl rfl) rfl rfl rfl rfl ?_
    have ht1 : tm (am_u d1 40 14 (nI (p + 1))) T n := ht.u (by decide) (by decide)
    have hp1 : rep (am_u d1 40 14 (nI (p + 1))) ts ws := hp.at
    have hf1 : rmF d (am_u d1 40 14 (nI (p + 1))) := hf.trans (rmF.f (by decide))
    have hat1 : am_u d1 40 14 (nI (p + 1)) 40 14 = nI (p + 1) := am_u_i
    generalize am_u d1 40 14 (nI (p + 1)) = d2 at ht1 hp1 hf1 hat1 ⊢
    refine am_go cd_M_read hc_M_read 34 2 (pc' := 67) (L' := [some (.ref 40), some (.int (nI (T p))), none, none]) (st' := [.int 40, .int (nI (T p))]) rfl ?_
    refine am_icmp_ne 78 (am_at hc_M_read 36 rfl) (by decide) (fun q2 => ?_) (fun q2 => absurd ((nI_eq (b := 40) (by omega) (by decide)).mp q2) (by omega))
    refine am_go cd_M_read hc_M_read 41 2 (pc' := 81) (L' := [some (.ref 40), some (.int (nI (T p))), none, none]) (st' := [.int 60, .int (nI (T p))]) rfl ?_
    refine am_icmp_ne 145 (am_at hc_M_read 43 rfl) (by decide) (fun q3 => ?_) (fun q3 => absurd ((nI_eq (b := 60) (by omega) (by decide)).mp q3) (by omega))
    refine am_go cd_M_read hc_M_read 79 2 (pc' := 148) (L' := [some (.ref 40), some (.int (nI (T p))), none, none]) (st' := [.int 41, .int (nI (T p))]) rfl ?_
    refine am_icmp_ne 169 (am_at hc_M_read 81 rfl) (by decide) (fun q4 => absurd (by rw [hT]; rfl) q4) (fun q4 => ?_)
    refine am_go cd_M_read hc_M_read 82 2 (pc' := 153) (L' := [some (.ref 40), some (.int (nI (T p))), none, none]) (st' := [.int 1, .ref 40]) rfl ?_
    rw [show (1 : Int32) = bI true from rfl]
    refine cW.callV (st := []) [.int (bI true)] (am_at hc_M_read 84 rfl) g_M_reduce (Or.inl (tw 425 rfl rfl)) (tw 427 rfl rfl) (tp 26 rfl rfl) 3 k_r3 rfl (by decide) rfl rfl rfl rfl (Nat.le_of_ble_eq_true rfl) (c_M_reduce (e := e + 1) hR hp1) ?_
    rintro _ d3 ⟨rfl, hf3, hp3, hat3⟩
    show cW _ _ (e + 3) _ m_M_read 156 [some (.ref 40), some (.int (nI (T p))), none, none] [] _ _
    refine am_go cd_M_read hc_M_read 85 2 (pc' := 158) (L' := [some (.ref 40), some (.int (nI (T p))), none, none]) (st' := [.ref 40, .ref 40]) rfl ?_
    refine am_getf 3 13 k_r3 (am_at hc_M_read 87 rfl) rfl (by decide) rfl (by decide) k_ok3 (Or.inl (tw 319 rfl rfl)) (congrArg Value.int hp3.2.1) ?_
    refine am_go cd_M_read hc_M_read 88 2 (pc' := 163) (L' := [some (.ref 40), some (.int (nI (T p))), none, none]) (st' := [.int (nI (ws'.length + 1) - 1), .ref 40]) rfl ?_
    rw [show nI (ws'.length + 1) - 1 = nI ws'.length from nI_pred _]
    refine am_putI 3 13 k_r3 (am_at hc_M_read 90 rfl) rfl (by decide) rfl (by decide) k_ok3 (tw 319 rfl rfl) rfl rfl rfl rfl ?_
    refine am_go cd_M_read hc_M_read 91 1 (pc' := 189) (L' := [some (.ref 40), some (.int (nI (T p))), none, none]) (st' := []) rfl ?_
    refine am_go cd_M_read hc_M_read 103 1 (pc' := 15) (L' := [some (.ref 40), some (.int (nI (T p))), none, none]) (st' := []) rfl ?_
    refine am_weak (L' := [some (.ref 40), none, none, none]) ⟨rfl, trivial⟩ ?_
    have hl4 := hp3.2.2.1
    simp only [List.length_cons] at hl4
    exact kk _ ((hf1.trans hf3).trans (rmF.f (by decide))) ((am_u_o (by decide)).trans (hat3.trans hat1)) ⟨⟨(am_u_o (by decide)).trans hp3.1.1, hp3.1.2.1, hp3.1.2.2.to (fun j _ => congrFun (am_u_ne 47 (by decide)) j)⟩, am_u_i, by omega, hp3.2.2.2.2.to (fun j _ => congrFun (am_u_ne 49 (by decide)) j)⟩
  have r5 : ∀ p ts ws ts' ws', p < n → (T p = 43 ∨ T p = 94) → Red (decide (T p = 94)) ts ws ts' ws' → ws'.length < 40 → P (p + 1) ts' (T p :: ws') → P p ts ws := by
    intro p ts ws ts' ws' hpn hT hR hl kk d1 hf hat hp
    have ht := hf.tm hr
    have hp13 := hp.1.2.1
    have hw40 := hp.2.2.1
    refine am_go cd_M_read hc_M_read 9 1 (pc' := 16) (L' := [some (.ref 40), none, none, none]) (st' := [.ref 40]) rfl ?_
    refine am_getf 3 14 k_r3 (am_at hc_M_read 10 rfl) rfl (by decide) rfl (by decide) k_ok3 (Or.inl (tw 320 rfl rfl)) (congrArg Value.int hat) ?_
    refine am_go cd_M_read hc_M_read 11 1 (pc' := 20) (L' := [some (.ref 40), none, none, none]) (st' := [.ref 40, .int (nI p)]) rfl ?_
    refine am_getf 3 5 k_r3 (am_at hc_M_read 12 rfl) rfl (by decide) rfl (by decide) k_ok3 (Or.inl (tw 311 rfl rfl)) (congrArg Value.int ht.1) ?_
    refine am_icmp_ge 192 (am_at hc_M_read 13 rfl) (by decide) (fun q0 => absurd q0 (nI_ge (by omega) (by omega))) (fun q0 => ?_)
    refine am_go cd_M_read hc_M_read 14 1 (pc' := 27) (L' := [some (.ref 40), none, none, none]) (st' := [.ref 40]) rfl ?_
    refine am_getf 3 6 k_r3 (am_at hc_M_read 15 rfl) rfl (by decide) rfl (by decide) k_ok3 (Or.inl (tw 312 rfl rfl)) rfl ?_
    refine am_go cd_M_read hc_M_read 16 1 (pc' := 31) (L' := [some (.ref 40), none, none, none]) (st' := [.ref 40, .ref 44]) rfl ?_
    refine am_getf 3 14 k_r3 (am_at hc_M_read 17 rfl) rfl (by decide) rfl (by decide) k_ok3 (Or.inl (tw 320 rfl rfl)) (congrArg Value.int hat) ?_
    refine am_iaload (p) (am_at hc_M_read 18 rfl) rfl (Or.inl (by decide)) rfl (by show p < 40; omega) (Nat.le_of_ble_eq_true rfl) ?_
    rw [show d1 44 p = nI (T p) from (ht.2.2 p hpn).1]
    refine am_go cd_M_read hc_M_read 19 3 (pc' := 38) (L' := [some (.ref 40), some (.int (nI (T p))), none, none]) (st' := [.ref 40, .ref 40]) rfl ?_
    refine am_getf 3 14 k_r3 (am_at hc_M_read 22 rfl) rfl (by decide) rfl (by decide) k_ok3 (Or.inl (tw 320 rfl rfl)) (congrArg Value.int hat) ?_
    refine cW.callV1 44 [.int (bI (pr_dg T n p))] (st := []) [.int (nI p)] (am_at hc_M_read 23 rfl) g_M_digit (Or.inl (tw 401 rfl rfl)) (tw 403 rfl rfl) (tp 20 rfl rfl) 3 k_r3 rfl (by decide) rfl rfl rfl rfl (Nat.le_of_ble_eq_true rfl) (c_M_digit ht (by omega)) rfl rfl ?_
    have hdg : pr_dg T n p = false := decide_eq_false (fun z => by omega)
    rw [hdg]
    simp only [bI_f]
    refine am_if_eq 54 (am_at hc_M_read 24 rfl) (by decide) (fun q1 => ?_) (fun q1 => absurd rfl q1)
    refine am_go cd_M_read hc_M_read 28 2 (pc' := 56) (L' := [some (.ref 40), some (.int (nI (T p))), none, none]) (st' := [.ref 40, .ref 40]) rfl ?_
    refine am_getf 3 14 k_r3 (am_at hc_M_read 30 rfl) rfl (by decide) rfl (by decide) k_ok3 (Or.inl (tw 320 rfl rfl)) (congrArg Value.int hat) ?_
    refine am_go cd_M_read hc_M_read 31 2 (pc' := 61) (L' := [some (.ref 40), some (.int (nI (T p))), none, none]) (st' := [.int (nI p + 1), .ref 40]) rfl ?_
    rw [show nI p + 1 = nI (p + 1) from nI_1 _]
    refine am_putI 3 14 k_r3 (am_at hc_M_read 33 rfl) rfl (by decide) rfl (by decide) k_ok3 (tw 320 rfl rfl) rfl rfl rfl rfl ?_
    have ht1 : tm (am_u d1 40 14 (nI (p + 1))) T n := ht.u (by decide) (by decide)
    have hp1 : rep (am_u d1 40 14 (nI (p + 1))) ts ws := hp.at
    have hf1 : rmF d (am_u d1 40 14 (nI (p + 1))) := hf.trans (rmF.f (by decide))
    have hat1 : am_u d1 40 14 (nI (p + 1)) 40 14 = nI (p + 1) := am_u_i
    generalize am_u d1 40 14 (nI (p + 1)) = d2 at ht1 hp1 hf1 hat1 ⊢
    refine am_go cd_M_read hc_M_read 34 2 (pc' := 67) (L' := [some (.ref 40), some (.int (nI (T p))), none, none]) (st' := [.int 40, .int (nI (T p))]) rfl ?_
    refine am_icmp_ne 78 (am_at hc_M_read 36 rfl) (by decide) (fun q2 => ?_) (fun q2 => absurd ((nI_eq (b := 40) (by omega) (by decide)).mp q2) (by omega))
    refine am_go cd_M_read hc_M_read 41 2 (pc' := 81) (L' := [some (.ref 40), some (.int (nI (T p))), none, none]) (st' := [.int 60, .int (nI (T p))]) rfl ?_
    refine am_icmp_ne 145 (am_at hc_M_read 43 rfl) (by decide) (fun q3 => ?_) (fun q3 => absurd ((nI_eq (b := 60) (by omega) (by decide)).mp q3) (by omega))
    refine am_go cd_M_read hc_M_read 79 2 (pc' := 148) (L' := [some (.ref 40), some (.int (nI (T p))), none, none]) (st' := [.int 41, .int (nI (T p))]) rfl ?_
    refine am_icmp_ne 169 (am_at hc_M_read 81 rfl) (by decide) (fun q4 => ?_) (fun q4 => absurd ((nI_eq (b := 41) (by omega) (by decide)).mp q4) (by omega))
    have hT2 : T p < 128 := by omega
    have tail : cW l x (e + 3) L m_M_read 181 [some (.ref 40), some (.int (nI (T p))), none, none] [.int (bI (decide (T p = 94))), .ref 40] d2 (fun r d' => r = none ∧ rmF d d' ∧ ∀ s, s < 64 → d' 47 s = zI (v s)) := by
      refine cW.callV (st := []) [.int (bI (decide (T p = 94)))] (am_at hc_M_read 99 rfl) g_M_reduce (Or.inl (tw 425 rfl rfl)) (tw 427 rfl rfl) (tp 26 rfl rfl) 3 k_r3 rfl (by decide) rfl rfl rfl rfl (Nat.le_of_ble_eq_true rfl) (c_M_reduce (e := e + 1) hR hp1) ?_
      rintro _ d3 ⟨rfl, hf3, hp3, hat3⟩
      show cW _ _ (e + 3) _ m_M_read 184 [some (.ref 40), some (.int (nI (T p))), none, none] [] _ _
      refine am_go cd_M_read hc_M_read 100 2 (pc' := 186) (L' := [some (.ref 40), some (.int (nI (T p))), none, none]) (st' := [.int (nI (T p)), .ref 40]) rfl ?_
      refine cW.callV1 189 [] (st := []) [.int (nI (T p))] (am_at hc_M_read 102 rfl) g_M_hold (Or.inl (tw 421 rfl rfl)) (tw 423 rfl rfl) (tp 25 rfl rfl) 3 k_r3 rfl (by decide) rfl rfl rfl rfl (Nat.le_of_ble_eq_true rfl) (c_M_hold hp3.2.1 hl) rfl rfl ?_
      refine am_go cd_M_read hc_M_read 103 1 (pc' := 15) (L' := [some (.ref 40), some (.int (nI (T p))), none, none]) (st' := []) rfl ?_
      refine am_weak (L' := [some (.ref 40), none, none, none]) ⟨rfl, trivial⟩ ?_
      have hpw : rep (am_u (am_u d3 49 ws'.length (nI (T p))) 40 13 (nI (ws'.length + 1))) ts' (T p :: ws') := ⟨⟨(am_u_o (by decide)).trans ((congrFun (am_u_ne 40 (by decide)) 10).trans hp3.1.1), hp3.1.2.1, hp3.1.2.2.to (fun j _ => by rw [am_u_ne 47 (by decide), am_u_ne 47 (by decide)])⟩, am_u_i, by simp only [List.length_cons]; omega, ⟨by rw [am_u_ne 49 (by decide)]; exact am_u_i, by omega⟩, hp3.2.2.2.to (fun j hj => by rw [am_u_ne 49 (by decide)]; exact am_u_o (fun z => by omega))⟩
      exact kk _ (((hf1.trans hf3).trans rmF.w).trans (rmF.f (by decide))) ((am_u_o (by decide)).trans ((congrFun (am_u_ne 40 (by decide)) 14).trans (hat3.trans hat1))) hpw
    refine am_go cd_M_read hc_M_read 92 3 (pc' := 173) (L' := [some (.ref 40), some (.int (nI (T p))), none, none]) (st' := [.int 94, .int (nI (T p)), .ref 40]) rfl ?_
    refine am_icmp_ne 180 (am_at hc_M_read 95 rfl) (by decide) (fun q5 => ?_) (fun q5 => ?_)
    · have z : ¬ T p = 94 := fun z => q5 (by rw [z]; rfl)
      refine am_go cd_M_read hc_M_read 98 1 (pc' := 181) (L' := [some (.ref 40), some (.int (nI (T p))), none, none]) (st' := [.int 0, .ref 40]) rfl ?_
      have h0 := tail
      rw [decide_eq_false z] at h0
      exact h0
    · have z : T p = 94 := (nI_eq (b := 94) (by omega) (by decide)).mp q5
      refine am_go cd_M_read hc_M_read 96 2 (pc' := 181) (L' := [some (.ref 40), some (.int (nI (T p))), none, none]) (st' := [.int 1, .ref 40]) rfl ?_
      have h0 := tail
      rw [decide_eq_true z] at h0
      exact h0
  have r6 : ∀ ts ws t, Red true ts ws [t] [] → (∀ s, s < 64 → t s = v s) → P n ts ws := by
    intro ts ws t hR hv d1 hf hat hp
    have ht := hf.tm hr
    have hp13 := hp.1.2.1
    have hw40 := hp.2.2.1
    refine am_go cd_M_read hc_M_read 9 1 (pc' := 16) (L' := [some (.ref 40), none, none, none]) (st' := [.ref 40]) rfl ?_
    refine am_getf 3 14 k_r3 (am_at hc_M_read 10 rfl) rfl (by decide) rfl (by decide) k_ok3 (Or.inl (tw 320 rfl rfl)) (congrArg Value.int hat) ?_
    refine am_go cd_M_read hc_M_read 11 1 (pc' := 20) (L' := [some (.ref 40), none, none, none]) (st' := [.ref 40, .int (nI n)]) rfl ?_
    refine am_getf 3 5 k_r3 (am_at hc_M_read 12 rfl) rfl (by decide) rfl (by decide) k_ok3 (Or.inl (tw 311 rfl rfl)) (congrArg Value.int ht.1) ?_
    refine am_icmp_ge 192 (am_at hc_M_read 13 rfl) (by decide) (fun q0 => ?_) (fun q0 => absurd (nI_le (by omega) (by omega)) q0)
    refine am_go cd_M_read hc_M_read 104 2 (pc' := 194) (L' := [some (.ref 40), none, none, none]) (st' := [.int 1, .ref 40]) rfl ?_
    refine cW.callV (st := []) [.int (bI true)] (am_at hc_M_read 106 rfl) g_M_reduce (Or.inl (tw 425 rfl rfl)) (tw 427 rfl rfl) (tp 26 rfl rfl) 3 k_r3 rfl (by decide) rfl rfl rfl rfl (Nat.le_of_ble_eq_true rfl) (c_M_reduce (all := true) (e := e + 1) hR hp) ?_
    rintro _ d3 ⟨rfl, hf3, hp3, hat3⟩
    show cW _ _ (e + 3) _ m_M_read 197 [some (.ref 40), none, none, none] [] _ _
    exact am_vret (am_at hc_M_read 107 rfl) rfl ⟨rfl, rfl, rfl, hf.trans hf3, fun s hs => by have := hp3.1.2.2.1.2 s hs; rw [hv s hs] at this; simpa using this⟩
  have h0 := hP P ⟨r1, r2, r3, r4, r5, r6⟩
  refine cM.go (by decide) (by simp [Value.category]) (Nat.le_of_ble_eq_true rfl) ?_
  refine am_go cd_M_read hc_M_read 0 2 (pc' := 2) (L' := [some (.ref 40), none, none, none]) (st' := [.int 0, .ref 40]) rfl ?_
  refine am_putI 3 10 k_r3 (am_at hc_M_read 2 rfl) rfl (by decide) rfl (by decide) k_ok3 (tw 316 rfl rfl) rfl rfl rfl rfl ?_
  refine am_go cd_M_read hc_M_read 3 2 (pc' := 7) (L' := [some (.ref 40), none, none, none]) (st' := [.int 0, .ref 40]) rfl ?_
  refine am_putI 3 13 k_r3 (am_at hc_M_read 5 rfl) rfl (by decide) rfl (by decide) k_ok3 (tw 319 rfl rfl) rfl rfl rfl rfl ?_
  refine am_go cd_M_read hc_M_read 6 2 (pc' := 12) (L' := [some (.ref 40), none, none, none]) (st' := [.int 0, .ref 40]) rfl ?_
  refine am_putI 3 14 k_r3 (am_at hc_M_read 8 rfl) rfl (by decide) rfl (by decide) k_ok3 (tw 320 rfl rfl) rfl rfl rfl rfl ?_
  exact h0 _ (((rmF.f (by decide)).trans (rmF.f (by decide))).trans (rmF.f (by decide))) am_u_i ⟨⟨by rw [am_u_o (by decide), am_u_o (by decide)]; exact am_u_i, by decide, trivial⟩, by rw [am_u_o (by decide)]; exact am_u_i, by decide, trivial⟩
end
section
/-! the reference's automaton and the class's reader: one fault, one count -/
def AU (T : Nat → Nat) (n p st ms dp fd : Nat) : Int × Nat := au_run T n (n - p) p st ms dp fd
theorem AU_end {T : Nat → Nat} {n st ms dp fd : Nat} : AU T n n st ms dp fd = if dp = 0 ∧ 4 ≤ st ∧ st ≠ 6 then (-1, fd) else ((n : Int), fd) := by
  unfold AU; rw [Nat.sub_self]; rfl
theorem AU_none {T : Nat → Nat} {n p st ms dp fd : Nat} (hp : p < n) (h : au_nx T n p st ms dp fd = none) : AU T n p st ms dp fd = ((p : Int), 0) := by
  unfold AU
  obtain ⟨k, hk⟩ : ∃ k, n - p = k + 1 := ⟨n - p - 1, by omega⟩
  rw [hk]; exact au_run_none h
theorem AU_some {T : Nat → Nat} {n p st ms dp fd : Nat} {r : Nat × Nat × Nat × Nat} (hp : p < n) (h : au_nx T n p st ms dp fd = some r) (h12 : r.2.2.2 ≤ 12) : AU T n p st ms dp fd = AU T n (p + 1) r.1 r.2.1 r.2.2.1 r.2.2.2 := by
  unfold AU
  obtain ⟨k, hk⟩ : ∃ k, n - p = k + 1 := ⟨n - p - 1, by omega⟩
  rw [hk, au_run_some h, if_neg (by omega), show n - (p + 1) = k by omega]
theorem AU_over {T : Nat → Nat} {n p st ms dp fd : Nat} {r : Nat × Nat × Nat × Nat} (hp : p < n) (h : au_nx T n p st ms dp fd = some r) (h12 : 12 < r.2.2.2) : AU T n p st ms dp fd = ((p : Int), 0) := by
  unfold AU
  obtain ⟨k, hk⟩ : ∃ k, n - p = k + 1 := ⟨n - p - 1, by omega⟩
  rw [hk, au_run_some h, if_pos h12]
theorem dg_no {T : Nat → Nat} {n p : Nat} (h : ¬ (48 ≤ T p ∧ T p ≤ 57)) : ¬ pr_dg T n p = true := fun z => h (pr_dg_lt z).2
theorem lt_no {T : Nat → Nat} {n p : Nat} (h : ¬ (97 ≤ T p ∧ T p ≤ 102)) : ¬ pr_lt T n p = true := fun z => h (pr_lt_lt z).2
theorem nx_dig0 {T : Nat → Nat} {n p ms dp fd : Nat} (h : pr_dg T n p = true) : au_nx T n p 0 ms dp fd = some (1, 0, dp, fd + 1) := by unfold au_nx; rw [if_pos rfl, if_pos h]
theorem nx_open {T : Nat → Nat} {n p ms dp fd : Nat} (h : T p = 40) (hd : dp < 8) : au_nx T n p 0 ms dp fd = some (0, 0, dp + 1, fd) := by unfold au_nx; rw [if_pos rfl, if_neg (dg_no (by omega)), if_pos ⟨h, hd⟩]
theorem nx_bad0 {T : Nat → Nat} {n p ms dp fd : Nat} (h : pr_dg T n p = false) (hd : ¬ (T p = 40 ∧ dp < 8)) : au_nx T n p 0 ms dp fd = none := by unfold au_nx; rw [if_pos rfl, if_neg (by rw [h]; decide), if_neg hd]
theorem nx_digs {T : Nat → Nat} {n p st ms dp fd : Nat} (h : pr_dg T n p = true) (hs : st = 1 ∨ st = 2 ∨ (6 ≤ st ∧ st ≤ 8)) : au_nx T n p st ms dp fd = some (st + 1, ms, dp, fd) := by unfold au_nx; rw [if_neg (by omega), if_pos h, if_pos hs]
theorem nx_let {T : Nat → Nat} {n p st ms dp fd : Nat} (h : pr_lt T n p = true) (h1 : 1 ≤ st) (h4 : st ≤ 4) (hb : ms.testBit (T p - 97) = false) : au_nx T n p st ms dp fd = some (4, ms ||| 2 ^ (T p - 97), dp, fd) := by
  have z := pr_lt_lt h
  unfold au_nx; rw [if_neg (by omega), if_neg (dg_no (by omega)), if_pos h, if_pos ⟨h4, hb⟩]
theorem nx_low {T : Nat → Nat} {n p st ms dp fd : Nat} (h : ¬ pr_lt T n p = true) (h1 : 1 ≤ st) (h3 : st ≤ 3) (hd : st < 3 → pr_dg T n p = false) : au_nx T n p st ms dp fd = none := by
  unfold au_nx; rw [if_neg (by omega)]
  by_cases hg : pr_dg T n p = true
  · rw [if_pos hg, if_neg (fun z => by have := hd (by omega); rw [hg] at this; cases this)]
  · rw [if_neg hg, if_neg h, if_neg (by omega)]
theorem nx_sign {T : Nat → Nat} {n p st ms dp fd : Nat} (h4 : 4 ≤ st) (h6 : st ≠ 6) (h : T p = 43 ∨ T p = 94) : au_nx T n p st ms dp fd = some (0, ms, dp, fd + 1) := by
  unfold au_nx; rw [if_neg (by omega), if_neg (dg_no (by omega)), if_neg (lt_no (by omega)), if_pos ⟨h4, h6⟩, if_pos h]
theorem nx_cap {T : Nat → Nat} {n p st ms dp fd : Nat} (h4 : 4 ≤ st) (h6 : st ≠ 6) (h : T p = 60) : au_nx T n p st ms dp fd = some (6, ms, dp, fd + 1) := by
  unfold au_nx; rw [if_neg (by omega), if_neg (dg_no (by omega)), if_neg (lt_no (by omega)), if_pos ⟨h4, h6⟩, if_neg (by omega), if_pos h]
theorem nx_close {T : Nat → Nat} {n p st ms dp fd : Nat} (h4 : 4 ≤ st) (h6 : st ≠ 6) (h : T p = 41) (hd : 0 < dp) : au_nx T n p st ms dp fd = some (5, ms, dp - 1, fd) := by
  unfold au_nx; rw [if_neg (by omega), if_neg (dg_no (by omega)), if_neg (lt_no (by omega)), if_pos ⟨h4, h6⟩, if_neg (by omega), if_neg (by omega), if_pos ⟨h, hd⟩]
theorem nx_6 {T : Nat → Nat} {n p ms dp fd : Nat} (h : pr_dg T n p = false) : au_nx T n p 6 ms dp fd = none := by
  unfold au_nx; rw [if_neg (by decide), if_neg (by rw [h]; decide)]
  by_cases hl : pr_lt T n p = true
  · rw [if_pos hl, if_neg (by omega)]
  · rw [if_neg hl, if_neg (by omega)]
/-- a state behind a whole part -/
def CS (T : Nat → Nat) (n q st ms : Nat) : Prop := 4 ≤ st ∧ st ≤ 9 ∧ st ≠ 6 ∧ (st = 7 ∨ st = 8 → pr_dg T n q = false) ∧ (st = 4 → pr_lt T n q = true → ms.testBit (T q - 97) = true)
theorem nx_dead {T : Nat → Nat} {n q st ms dp fd : Nat} (h : CS T n q st ms) (h60 : T q ≠ 60) (h43 : T q ≠ 43) (h94 : T q ≠ 94) (h41 : ¬ (T q = 41 ∧ 0 < dp)) : au_nx T n q st ms dp fd = none := by
  obtain ⟨h1, h2, h3, h4, h5⟩ := h
  unfold au_nx; rw [if_neg (by omega)]
  by_cases hg : pr_dg T n q = true
  · rw [if_pos hg, if_neg (fun z => by have := h4 (by omega); rw [hg] at this; cases this)]
  · rw [if_neg hg]
    by_cases hl : pr_lt T n q = true
    · rw [if_pos hl, if_neg (fun z => by have := h5 (by omega) hl; rw [z.2] at this; cases this)]
    · rw [if_neg hl, if_pos ⟨h1, h3⟩, if_neg (by omega), if_neg h60, if_neg h41]
theorem se_no {T : Nat → Nat} {n q c : Nat} (h : pr_se T n q c = false) (hq : q < n) : T q ≠ c := fun z => by
  have : pr_se T n q c = true := decide_eq_true ⟨hq, z⟩
  rw [h] at this; cases this
theorem AU_dead {T : Nat → Nat} {n q st ms dp fd : Nat} (hq : q ≤ n) (h : CS T n q st ms) (hs : ∀ s ∈ [60, 43, 94], pr_se T n q s = false) (h41 : pr_se T n q 41 = false ∨ dp = 0) (hn : q = n → 0 < dp) : (AU T n q st ms dp fd).1 = (q : Int) := by
  by_cases hqn : q = n
  · subst hqn
    have := hn rfl
    rw [AU_end, if_neg (by omega)]
  · have hlt : q < n := by omega
    rw [AU_none hlt (nx_dead h (se_no (hs 60 (by decide)) hlt) (se_no (hs 43 (by decide)) hlt) (se_no (hs 94 (by decide)) hlt) (fun z => h41.elim (fun y => se_no y hlt z.1) (fun y => by omega)))]
/-- what the automaton says where the reader says r -/
def XA (T : Nat → Nat) (n : Nat) (ex : List Nat) (p c dp : Nat) (X : Int × Nat) (r : pr_R) : Prop := (∀ q, r = (q, none) → X.1 = (q : Int)) ∧ ∀ q c' v, r = (q, some (c', v)) → p < q ∧ q ≤ n ∧ c < c' ∧ c' ≤ 12 ∧ (∀ s ∈ ex, pr_se T n q s = false) ∧ ∃ st ms, CS T n q st ms ∧ X = AU T n q st ms dp c'
theorem XA.no {T : Nat → Nat} {n : Nat} {ex : List Nat} {p c dp q : Nat} {X : Int × Nat} (h : X.1 = (q : Int)) : XA T n ex p c dp X (q, none) := ⟨fun _ z => by cases z; exact h, fun _ _ _ z => by cases z⟩
theorem XA.yes {T : Nat → Nat} {n : Nat} {ex : List Nat} {p c dp q c' st ms : Nat} {v : Nat → Int} {X : Int × Nat} (h1 : p < q) (h2 : q ≤ n) (h3 : c < c') (h4 : c' ≤ 12) (h5 : ∀ s ∈ ex, pr_se T n q s = false) (h6 : CS T n q st ms) (h7 : X = AU T n q st ms dp c') : XA T n ex p c dp X (q, some (c', v)) := ⟨fun _ z => (by cases z), fun _ _ _ z => by cases z; exact ⟨h1, h2, h3, h4, h5, st, ms, h6, h7⟩⟩
theorem num_AU {T : Nat → Nat} {n dp c ms : Nat} (hc : c ≤ 12) (b : Nat) (hb : b = 0 ∨ b = 6) : ∀ k p v st, st + k = 3 → 1 ≤ st → p ≤ n → ∃ st', 1 ≤ st' ∧ st' ≤ 3 ∧ AU T n p (b + st) ms dp c = AU T n (pr_num T n k p v).1 (b + st') ms dp c ∧ (st' < 3 → pr_dg T n (pr_num T n k p v).1 = false)
  | 0, p, v, st, hk, h1, hp => ⟨st, h1, by omega, rfl, fun z => by omega⟩
  | k + 1, p, v, st, hk, h1, hp => by
    unfold pr_num
    by_cases hg : pr_dg T n p = true
    · rw [if_pos hg]
      have hlt := (pr_dg_lt hg).1
      obtain ⟨st', a1, a2, a3, a4⟩ := num_AU (T := T) (n := n) (dp := dp) (ms := ms) hc b hb k (p + 1) (v * 10 + (T p - 48)) (st + 1) (by omega) (by omega) hlt
      refine ⟨st', a1, a2, ?_, a4⟩
      rw [AU_some hlt (nx_digs hg (by omega)) hc]
      exact a3
    · rw [if_neg hg]
      exact ⟨st, h1, by omega, rfl, fun _ => by simpa using hg⟩
theorem pcn_or : ∀ m, m < 64 → ∀ j, j < 6 → m.testBit j = false → pcn (m ||| 2 ^ j) = pcn m + 1 := by decide +kernel
theorem pcn_6 : ∀ m, m < 64 → pcn m = 6 → ∀ j, j < 6 → m.testBit j = true := by decide +kernel
theorem let_AU {T : Nat → Nat} {n dp c : Nat} (hc : c ≤ 12) : ∀ k p m, m < 64 → pcn m + k = 6 → p ≤ n → AU T n p 4 m dp c = AU T n (pr_let T n k p m).1 4 (pr_let T n k p m).2 dp c ∧ (pr_lt T n (pr_let T n k p m).1 = true → (pr_let T n k p m).2.testBit (T (pr_let T n k p m).1 - 97) = true)
  | 0, p, m, hm, hk, hp => ⟨rfl, fun z => pcn_6 m hm hk _ (by have := pr_lt_lt z; show T p - 97 < 6; have h2 := this.2; simp only [pr_let] at h2; omega)⟩
  | k + 1, p, m, hm, hk, hp => by
    unfold pr_let
    by_cases hg : pr_lt T n p = true ∧ m.testBit (T p - 97) = false
    · rw [if_pos hg]
      have z := pr_lt_lt hg.1
      obtain ⟨a1, a2⟩ := let_AU (T := T) (n := n) (dp := dp) hc k (p + 1) (m ||| 2 ^ (T p - 97)) (let_bit m hm _ (by omega)).2 (by rw [pcn_or m hm _ (by omega) hg.2]; omega) z.1
      refine ⟨?_, a2⟩
      rw [AU_some z.1 (nx_let hg.1 (by decide) (by decide) hg.2) hc]
      exact a1
    · rw [if_neg hg]
      refine ⟨rfl, fun z => ?_⟩
      cases hb : m.testBit (T p - 97) with
      | true => rfl
      | false => exact absurd ⟨z, hb⟩ hg
theorem or_pos (m j : Nat) : m ||| 2 ^ j ≠ 0 := fun h => by
  have h1 := congrArg (fun z => z.testBit j) h
  simp [Nat.testBit_or, Nat.testBit_two_pow_self] at h1
theorem pr_let_pos (T : Nat → Nat) (n : Nat) : ∀ k p m, m ≠ 0 → (pr_let T n k p m).2 ≠ 0
  | 0, p, m, h => h
  | k + 1, p, m, h => by
    unfold pr_let
    split
    · exact pr_let_pos T n k _ _ (or_pos _ _)
    · exact h
theorem XA_bundle {T : Nat → Nat} {n p c dp ms : Nat} (hp : p ≤ n) (hc : c ≤ 12) (h40 : pr_se T n p 40 = false) : XA T n [] p c dp (AU T n p 0 ms dp c) (pr_bundle T n p c) := by
  have bad : pr_dg T n p = false → (AU T n p 0 ms dp c).1 = (p : Int) := fun hg => by
    by_cases hpn : p = n
    · subst hpn; rw [AU_end, if_neg (by omega)]
    · have hlt : p < n := by omega
      rw [AU_none hlt (nx_bad0 hg (fun z => se_no h40 hlt z.1))]
  unfold pr_bundle
  by_cases h12 : 12 ≤ c
  · rw [if_pos h12]
    refine XA.no ?_
    cases hg : pr_dg T n p with
    | false => exact bad hg
    | true => rw [AU_over (pr_dg_lt hg).1 (nx_dig0 hg) (by dsimp only; omega)]
  · rw [if_neg h12]
    cases hg : pr_dg T n p with
    | false => rw [if_pos rfl]; exact XA.no (bad hg)
    | true =>
      rw [if_neg (by decide)]
      have hlt := (pr_dg_lt hg).1
      have e1 : AU T n p 0 ms dp c = AU T n (p + 1) 1 0 dp (c + 1) := AU_some hlt (nx_dig0 hg) (by dsimp only; omega)
      obtain ⟨st, a1, a2, a3, a4⟩ := num_AU (T := T) (n := n) (dp := dp) (c := c + 1) (ms := 0) (by omega) 0 (Or.inl rfl) 2 (p + 1) (0 * 10 + (T p - 48)) 1 rfl (by decide) hlt
      have eN : pr_num T n 3 p 0 = pr_num T n 2 (p + 1) (0 * 10 + (T p - 48)) := by rw [pr_num, if_pos hg]
      have hge := (pr_num_ge T n 2 (p + 1) (0 * 10 + (T p - 48))).1
      have hqn := pr_num_n T n 2 (p + 1) (0 * 10 + (T p - 48)) hlt
      rw [← eN] at a3 a4 hge hqn
      generalize pr_num T n 3 p 0 = Nn at a3 a4 hge hqn ⊢
      rw [e1]
      simp only [Nat.zero_add] at a3
      rw [a3]
      by_cases hl : pr_lt T n Nn.1 = true
      · have z := pr_lt_lt hl
        have eL : pr_let T n 6 Nn.1 0 = pr_let T n 5 (Nn.1 + 1) (0 ||| 2 ^ (T Nn.1 - 97)) := by rw [pr_let, if_pos ⟨hl, Nat.zero_testBit _⟩]
        have e2 : AU T n Nn.1 st 0 dp (c + 1) = AU T n (Nn.1 + 1) 4 (0 ||| 2 ^ (T Nn.1 - 97)) dp (c + 1) := AU_some z.1 (nx_let hl a1 (by omega) (Nat.zero_testBit _)) (by dsimp only; omega)
        obtain ⟨b1, b2⟩ := let_AU (T := T) (n := n) (dp := dp) (c := c + 1) (by omega) 5 (Nn.1 + 1) (0 ||| 2 ^ (T Nn.1 - 97)) (let_bit 0 (by decide) _ (by omega)).2 (by rw [pcn_or 0 (by decide) _ (by omega) (Nat.zero_testBit _)]; rfl) z.1
        have hpos := pr_let_pos T n 5 (Nn.1 + 1) (0 ||| 2 ^ (T Nn.1 - 97)) (or_pos _ _)
        have hge2 := (pr_let_ge T n 5 (Nn.1 + 1) (0 ||| 2 ^ (T Nn.1 - 97))).1
        have hqn2 := pr_let_n T n 5 (Nn.1 + 1) (0 ||| 2 ^ (T Nn.1 - 97)) z.1
        rw [← eL] at b1 b2 hpos hge2 hqn2
        generalize pr_let T n 6 Nn.1 0 = Ll at b1 b2 hpos hge2 hqn2 ⊢
        rw [if_neg hpos]
        exact XA.yes (by omega) hqn2 (by omega) (by omega) (fun s z => by cases z) ⟨by decide, by decide, by decide, fun z => by omega, fun _ => b2⟩ (e2.trans b1)
      · have eL : pr_let T n 6 Nn.1 0 = (Nn.1, 0) := by rw [pr_let, if_neg (fun z => hl z.1)]
        rw [eL, if_pos rfl]
        refine XA.no ?_
        by_cases hnn : Nn.1 = n
        · rw [hnn, AU_end, if_neg (by omega)]
        · rw [AU_none (by omega) (nx_low hl a1 a2 a4)]
theorem XA_capl {T : Nat → Nat} {n dp pl cl : Nat} : ∀ k p c v st ms, 13 ≤ c + k → c ≤ 12 → p ≤ n → pl < p → cl < c → CS T n p st ms → XA T n [60] pl cl dp (AU T n p st ms dp c) (pr_capl T n k p c v)
  | 0, p, c, v, st, ms, hk, hc, hp, hpl, hcl, hs => by omega
  | k + 1, p, c, v, st, ms, hk, hc, hp, hpl, hcl, hs => by
    unfold pr_capl
    cases h60 : pr_se T n p 60 with
    | false =>
      rw [if_pos rfl]
      exact XA.yes hpl hp hcl hc (fun s z => by cases z with | head => exact h60 | tail _ z => cases z) hs rfl
    | true =>
      rw [if_neg (by decide)]
      obtain ⟨hlt, hT⟩ := pr_se_lt h60
      have hx := nx_cap (T := T) (n := n) (p := p) (ms := ms) (dp := dp) (fd := c) hs.1 hs.2.2.1 hT
      by_cases h12 : 12 ≤ c
      · rw [if_pos h12]
        refine XA.no ?_
        rw [AU_over hlt hx (by dsimp only; omega)]
      · rw [if_neg h12, AU_some hlt hx (by dsimp only; omega)]
        dsimp only
        cases hg : pr_dg T n (p + 1) with
        | false =>
          rw [if_pos rfl]
          refine XA.no ?_
          by_cases hnn : p + 1 = n
          · rw [hnn, AU_end, if_neg (by omega)]
          · rw [AU_none (by omega) (nx_6 hg)]
        | true =>
          rw [if_neg (by decide)]
          have hlt2 := (pr_dg_lt hg).1
          have e1 : AU T n (p + 1) 6 ms dp (c + 1) = AU T n (p + 1 + 1) 7 ms dp (c + 1) := AU_some hlt2 (nx_digs hg (by omega)) (by dsimp only; omega)
          obtain ⟨st2, a1, a2, a3, a4⟩ := num_AU (T := T) (n := n) (dp := dp) (c := c + 1) (ms := ms) (by omega) 6 (Or.inr rfl) 2 (p + 1 + 1) (0 * 10 + (T (p + 1) - 48)) 1 rfl (by decide) hlt2
          have eN : pr_num T n 3 (p + 1) 0 = pr_num T n 2 (p + 1 + 1) (0 * 10 + (T (p + 1) - 48)) := by rw [pr_num, if_pos hg]
          have hge := (pr_num_ge T n 2 (p + 1 + 1) (0 * 10 + (T (p + 1) - 48))).1
          have hqn := pr_num_n T n 2 (p + 1 + 1) (0 * 10 + (T (p + 1) - 48)) hlt2
          rw [← eN] at a3 a4 hge hqn
          generalize pr_num T n 3 (p + 1) 0 = Nn at a3 a4 hge hqn ⊢
          rw [e1, show (7 : Nat) = 6 + 1 from rfl, a3]
          exact XA_capl k Nn.1 (c + 1) _ (6 + st2) ms (by omega) (by omega) hqn (by omega) (by omega) ⟨by omega, by omega, by omega, fun z => a4 (by omega), fun z => by omega⟩
def HB (T : Nat → Nat) (n dp : Nat) (B : Option (Nat → Nat → pr_R)) : Prop := (B = none → dp = 8) ∧ ∀ f, B = some f → dp < 8 ∧ ∀ p c ms, p ≤ n → c ≤ 12 → XA T n [60, 43, 94] p c (dp + 1) (AU T n p 0 ms (dp + 1) c) (f p c)
theorem XA_atom {T : Nat → Nat} {n dp p c ms : Nat} {B : Option (Nat → Nat → pr_R)} (hB : HB T n dp B) (hp : p ≤ n) (hc : c ≤ 12) : XA T n [] p c dp (AU T n p 0 ms dp c) (pr_atom T n B p c) := by
  unfold pr_atom
  cases h40 : pr_se T n p 40 with
  | false => rw [if_pos rfl]; exact XA_bundle hp hc h40
  | true =>
    rw [if_neg (by decide)]
    obtain ⟨hlt, hT⟩ := pr_se_lt h40
    cases B with
    | none =>
      have := hB.1 rfl
      exact XA.no (by rw [AU_none hlt (nx_bad0 (decide_eq_false (fun z => by omega)) (by omega))])
    | some f =>
      obtain ⟨hd, hf⟩ := hB.2 f rfl
      have e1 : AU T n p 0 ms dp c = AU T n (p + 1) 0 0 (dp + 1) c := AU_some hlt (nx_open hT hd) hc
      rw [e1]
      have hx := hf (p + 1) c 0 hlt hc
      dsimp only
      generalize f (p + 1) c = R at hx
      obtain ⟨q, o⟩ := R
      cases o with
      | none => exact XA.no (hx.1 q rfl)
      | some r =>
        obtain ⟨c', v⟩ := r
        obtain ⟨g1, g2, g3, g4, g5, st, ms', g6, g7⟩ := hx.2 q c' v rfl
        dsimp only
        rw [g7]
        cases h41 : pr_se T n q 41 with
        | true =>
          rw [if_pos rfl]
          obtain ⟨hlt2, hT2⟩ := pr_se_lt h41
          have e2 : AU T n q st ms' (dp + 1) c' = AU T n (q + 1) 5 ms' dp c' := AU_some hlt2 (nx_close g6.1 g6.2.2.1 hT2 (by omega)) g4
          exact XA.yes (by omega) hlt2 (by omega) g4 (fun s z => by cases z) ⟨by decide, by decide, by decide, fun z => by omega, fun z => by omega⟩ e2
        | false =>
          rw [if_neg (by decide)]
          exact XA.no (AU_dead g2 g6 g5 (Or.inl h41) (fun _ => by omega))
theorem XA_cap {T : Nat → Nat} {n dp p c ms : Nat} {B : Option (Nat → Nat → pr_R)} (hB : HB T n dp B) (hp : p ≤ n) (hc : c ≤ 12) : XA T n [60] p c dp (AU T n p 0 ms dp c) (pr_cap T n B p c) := by
  have hx := XA_atom (ms := ms) hB hp hc
  unfold pr_cap
  generalize pr_atom T n B p c = R at hx
  obtain ⟨q, o⟩ := R
  cases o with
  | none => exact XA.no (hx.1 q rfl)
  | some r =>
    obtain ⟨c', v⟩ := r
    obtain ⟨g1, g2, g3, g4, g5, st, ms', g6, g7⟩ := hx.2 q c' v rfl
    dsimp only
    rw [g7]
    exact XA_capl 13 q c' v st ms' (by omega) g4 g2 g1 g3 g6
theorem XA_suml {T : Nat → Nat} {n dp pl cl : Nat} {B : Option (Nat → Nat → pr_R)} (hB : HB T n dp B) : ∀ k p c acc ms, 13 ≤ c + k → c ≤ 12 → p ≤ n → pl ≤ p → cl ≤ c → XA T n [60, 43] pl cl dp (AU T n p 0 ms dp c) (pr_suml T n B k p c acc)
  | 0, p, c, acc, ms, hk, hc, hp, hpl, hcl => by omega
  | k + 1, p, c, acc, ms, hk, hc, hp, hpl, hcl => by
    have hx := XA_cap (ms := ms) hB hp hc
    unfold pr_suml
    generalize pr_cap T n B p c = R at hx
    obtain ⟨q, o⟩ := R
    cases o with
    | none => exact XA.no (hx.1 q rfl)
    | some r =>
      obtain ⟨c', v⟩ := r
      obtain ⟨g1, g2, g3, g4, g5, st, ms', g6, g7⟩ := hx.2 q c' v rfl
      dsimp only
      rw [g7]
      cases h43 : pr_se T n q 43 with
      | false =>
        rw [if_pos rfl]
        exact XA.yes (by omega) g2 (by omega) g4 (fun s z => by
          rcases List.mem_cons.mp z with rfl | z
          · exact g5 60 (by decide)
          · rcases List.mem_cons.mp z with rfl | z
            · exact h43
            · cases z) g6 rfl
      | true =>
        rw [if_neg (by decide)]
        obtain ⟨hlt, hT⟩ := pr_se_lt h43
        have hn := nx_sign (T := T) (n := n) (p := q) (ms := ms') (dp := dp) (fd := c') g6.1 g6.2.2.1 (Or.inl hT)
        by_cases h12 : 12 ≤ c'
        · rw [if_pos h12]
          exact XA.no (by rw [AU_over hlt hn (by dsimp only; omega)])
        · rw [if_neg h12, AU_some hlt hn (by dsimp only; omega)]
          exact XA_suml hB k (q + 1) (c' + 1) _ ms' (by omega) (by omega) hlt (by omega) (by omega)
theorem XA_bidl {T : Nat → Nat} {n dp pl cl : Nat} {B : Option (Nat → Nat → pr_R)} (hB : HB T n dp B) : ∀ k p c acc ms, 13 ≤ c + k → c ≤ 12 → p ≤ n → pl ≤ p → cl ≤ c → XA T n [60, 43, 94] pl cl dp (AU T n p 0 ms dp c) (pr_bidl T n B k p c acc)
  | 0, p, c, acc, ms, hk, hc, hp, hpl, hcl => by omega
  | k + 1, p, c, acc, ms, hk, hc, hp, hpl, hcl => by
    have hx : XA T n [60, 43] p c dp (AU T n p 0 ms dp c) (pr_sum T n B p c) := XA_suml hB 13 p c _ ms (by omega) hc hp (Nat.le_refl _) (Nat.le_refl _)
    unfold pr_bidl
    generalize pr_sum T n B p c = R at hx
    obtain ⟨q, o⟩ := R
    cases o with
    | none => exact XA.no (hx.1 q rfl)
    | some r =>
      obtain ⟨c', v⟩ := r
      obtain ⟨g1, g2, g3, g4, g5, st, ms', g6, g7⟩ := hx.2 q c' v rfl
      dsimp only
      rw [g7]
      cases h94 : pr_se T n q 94 with
      | false =>
        rw [if_pos rfl]
        exact XA.yes (by omega) g2 (by omega) g4 (fun s z => by
          rcases List.mem_cons.mp z with rfl | z
          · exact g5 60 (by decide)
          · rcases List.mem_cons.mp z with rfl | z
            · exact g5 43 (by decide)
            · rcases List.mem_cons.mp z with rfl | z
              · exact h94
              · cases z) g6 rfl
      | true =>
        rw [if_neg (by decide)]
        obtain ⟨hlt, hT⟩ := pr_se_lt h94
        have hn := nx_sign (T := T) (n := n) (p := q) (ms := ms') (dp := dp) (fd := c') g6.1 g6.2.2.1 (Or.inr hT)
        by_cases h12 : 12 ≤ c'
        · rw [if_pos h12]
          exact XA.no (by rw [AU_over hlt hn (by dsimp only; omega)])
        · rw [if_neg h12, AU_some hlt hn (by dsimp only; omega)]
          exact XA_bidl hB k (q + 1) (c' + 1) _ ms' (by omega) (by omega) hlt (by omega) (by omega)
theorem XA_bidk {T : Nat → Nat} {n : Nat} : ∀ k dp p c ms, dp + k = 8 → p ≤ n → c ≤ 12 → XA T n [60, 43, 94] p c dp (AU T n p 0 ms dp c) (pr_bidk T n k p c)
  | 0, dp, p, c, ms, hk, hp, hc => XA_bidl (B := none) ⟨fun _ => by omega, fun f z => by cases z⟩ 13 p c _ ms (by omega) hc hp (Nat.le_refl _) (Nat.le_refl _)
  | k + 1, dp, p, c, ms, hk, hp, hc => XA_bidl (B := some (pr_bidk T n k)) ⟨fun z => (by cases z), fun f z => by cases z; exact ⟨by omega, fun p c ms hp hc => XA_bidk k (dp + 1) p c ms (by omega) hp hc⟩⟩ 13 p c _ ms (by omega) hc hp (Nat.le_refl _) (Nat.le_refl _)
/-- the automaton's answer is the reader's -/
theorem au_read (T : Nat → Nat) (n : Nat) : (∀ q, pr_read T n = .inl q → (au_run T n n 0 0 0 0 0).1 = (q : Int)) ∧ ∀ c v, pr_read T n = .inr (c, v) → au_run T n n 0 0 0 0 0 = (-1, c) := by
  have hx := XA_bidk (T := T) (n := n) 8 0 0 0 0 rfl (Nat.zero_le _) (by decide)
  have e0 : AU T n 0 0 0 0 0 = au_run T n n 0 0 0 0 0 := rfl
  rw [e0] at hx
  unfold pr_read
  generalize pr_bidk T n 8 0 0 = R at hx
  obtain ⟨q, o⟩ := R
  cases o with
  | none => exact ⟨fun _ z => by cases z; exact hx.1 q rfl, fun _ _ z => by cases z⟩
  | some r =>
    obtain ⟨c', v⟩ := r
    obtain ⟨g1, g2, g3, g4, g5, st, ms', g6, g7⟩ := hx.2 q c' v rfl
    dsimp only
    by_cases hqn : q = n
    · rw [if_pos hqn]
      refine ⟨fun _ z => (by cases z), fun _ _ z => ?_⟩
      cases z
      rw [g7, hqn, AU_end, if_pos ⟨rfl, g6.1, g6.2.2.1⟩]
    · rw [if_neg hqn]
      refine ⟨fun _ z => ?_, fun _ _ z => by cases z⟩
      cases z
      rw [g7]
      exact AU_dead g2 g6 g5 (Or.inr rfl) (fun z => absurd z hqn)
end
section
/-! the reference's stacks end with the class's table -/
def fo (T : Nat → Nat) (n q : Nat) : Prop := pr_dg T n q = false ∧ pr_lt T n q = false
def eqv (f g : Tb) : Prop := ∀ s, s < 64 → f s = g s
theorem fo_at {T : Nat → Nat} {n q c : Nat} (h : pr_se T n q c = true) (hc : c = 41 ∨ c = 43 ∨ c = 60 ∨ c = 94) : fo T n q := by
  have z := (pr_se_lt h).2
  exact ⟨decide_eq_false (fun y => by omega), decide_eq_false (fun y => by omega)⟩
theorem jn_congr {f f' g g' : Tb} (hf : eqv f f') (hg : eqv g g') : eqv (jn f g) (jn f' g') := by
  have le : ∀ (a a' b b' : Tb), eqv a a' → eqv b b' → ∀ s, s < 64 → jn a b s ≤ jn a' b' s := fun a a' b b' ha hb s hs => by
    obtain ⟨p, hp, e⟩ := jn_is a b hs
    rw [e, ha p (sub_lt hs hp), hb (s - p) (by omega)]
    exact jn_ge a' b' hs hp
  exact fun s hs => Int.le_antisymm (le f f' g g' hf hg s hs) (le f' f g' g (fun s hs => (hf s hs).symm) (fun s hs => (hg s hs).symm) s hs)
theorem jn_0 {g : Tb} (hg : tb_ok g) : eqv (jn (fun _ => 0) g) g := fun s hs => by
  have h1 := jn_r (x := fun _ => 0) (y := g) tb_0 hs
  obtain ⟨p, hp, e⟩ := jn_is (fun _ => 0) g hs
  have h2 := hg.2 (s - p) s hs (sub_diff hs hp)
  omega
theorem Red_stop {all : Bool} {ts : List Tb} {ws : List Nat} (h : ∀ w r, ws = w :: r → ¬ (w = 43 ∨ (all = true ∧ w = 94))) : Red all ts ws ts ws := by
  cases ws with
  | nil => exact ⟨rfl, rfl⟩
  | cons w r => unfold Red; rw [if_neg (h w r rfl)]; exact ⟨rfl, rfl⟩
def RS (v : Tb) (ts : List Tb) (ws : List Nat) (ts' : List Tb) (ws' : List Nat) : Prop := (∃ v', eqv v' v ∧ ts' = v' :: ts ∧ ws' = ws) ∨ ∃ x y, eqv (jn x y) v ∧ ts' = y :: x :: ts ∧ ws' = 43 :: ws
def RB (v : Tb) (ts : List Tb) (ws : List Nat) (ts' : List Tb) (ws' : List Nat) : Prop := RS v ts ws ts' ws' ∨ ∃ x u, eqv (fun s => max (x s) (u s)) v ∧ RS u (x :: ts) (94 :: ws) ts' ws'
theorem RS.red {v : Tb} {ts ts' : List Tb} {ws ws' : List Nat} (h : RS v ts ws ts' ws') : ∃ v', eqv v' v ∧ ∀ all A B, Red all (v' :: ts) ws A B → Red all ts' ws' A B := by
  rcases h with ⟨v', h1, rfl, rfl⟩ | ⟨x, y, h1, rfl, rfl⟩
  · exact ⟨v', h1, fun _ _ _ z => z⟩
  · refine ⟨jw 43 x y, by rw [jw_43]; exact h1, fun all A B z => ?_⟩
    unfold Red
    rw [if_pos (Or.inl rfl)]
    exact ⟨y, x, ts, rfl, z⟩
theorem RS.to {v u : Tb} {ts ts' : List Tb} {ws ws' : List Nat} (h : RS v ts ws ts' ws') (e : eqv v u) : RS u ts ws ts' ws' := by
  rcases h with ⟨v', h1, h2⟩ | ⟨x, y, h1, h2⟩
  · exact Or.inl ⟨v', fun s hs => (h1 s hs).trans (e s hs), h2⟩
  · exact Or.inr ⟨x, y, fun s hs => (h1 s hs).trans (e s hs), h2⟩
def Wn (ws : List Nat) : Prop := ∀ w r, ws = w :: r → w ≠ 43
def Wb (ws : List Nat) : Prop := ∀ w r, ws = w :: r → w ≠ 43 ∧ w ≠ 94
theorem Red_f {ts : List Tb} {ws : List Nat} (h : Wn ws) : Red false ts ws ts ws := Red_stop (fun w r e z => z.elim (h w r e) (fun z => by cases z.1))
theorem Red_t {ts : List Tb} {ws : List Nat} (h : Wb ws) : Red true ts ws ts ws := Red_stop (fun w r e z => z.elim (h w r e).1 (fun z => (h w r e).2 z.2))
theorem Red_94 {x y : Tb} {ts : List Tb} {ws : List Nat} (h : Wb ws) : Red true (y :: x :: ts) (94 :: ws) (jw 94 x y :: ts) ws := by
  unfold Red
  rw [if_pos (Or.inr ⟨rfl, rfl⟩)]
  exact ⟨y, x, ts, rfl, Red_t h⟩
theorem Red_43 {x y : Tb} {ts : List Tb} {ws : List Nat} (h : Wn ws) : Red false (y :: x :: ts) (43 :: ws) (jw 43 x y :: ts) ws := by
  unfold Red
  rw [if_pos (Or.inl rfl)]
  exact ⟨y, x, ts, rfl, Red_f h⟩
theorem RB.red {v : Tb} {ts ts' : List Tb} {ws ws' : List Nat} (hw : Wb ws) (h : RB v ts ws ts' ws') : ∃ v', eqv v' v ∧ Red true ts' ws' (v' :: ts) ws := by
  rcases h with h | ⟨x, u, e, h⟩
  · obtain ⟨v', h1, h2⟩ := h.red
    exact ⟨v', h1, h2 _ _ _ (Red_t hw)⟩
  · obtain ⟨v', h1, h2⟩ := h.red
    refine ⟨jw 94 x v', fun s hs => ?_, h2 _ _ _ (Red_94 hw)⟩
    rw [jw_n (by decide), h1 s hs]
    exact e s hs
/-- the claim for a bid in brackets, or the whole -/
def BL (T : Nat → Nat) (n : Nat) (P : Nat → List Tb → List Nat → Prop) (f : Nat → Nat → pr_R) : Prop := ∀ p c ts ws q c' v, p ≤ n → c ≤ 12 → ts.length ≤ c → ws.length ≤ p → Wb ws → f p c = (q, some (c', v)) → fo T n q → (∀ ts' ws', RB v ts ws ts' ws' → P q ts' ws') → P p ts ws
theorem rd_bundle {T : Nat → Nat} {n : Nat} {vv : Tb} {P : Nat → List Tb → List Nat → Prop} (hP : rdR T n vv P) {p c q c' : Nat} {ts : List Tb} {ws : List Nat} {v : Tb} (hl : ts.length ≤ c) (h : pr_bundle T n p c = (q, some (c', v))) (hf : fo T n q) (kk : P q (v :: ts) ws) : P p ts ws := by
  unfold pr_bundle at h
  by_cases h12 : 12 ≤ c
  · rw [if_pos h12] at h; cases h
  · rw [if_neg h12] at h
    cases hg : pr_dg T n p with
    | false => rw [hg, if_pos rfl] at h; cases h
    | true =>
      rw [hg, if_neg (by decide)] at h
      by_cases hm : (pr_let T n 6 (pr_num T n 3 p 0).1 0).2 = 0
      · rw [if_pos hm] at h; cases h
      · rw [if_neg hm] at h
        have hd : pr_dg T n (pr_num T n 3 p 0).1 = false := by
          by_cases z : pr_dg T n (pr_num T n 3 p 0).1 = true
          · have z2 := pr_dg_lt z
            have e : pr_let T n 6 (pr_num T n 3 p 0).1 0 = ((pr_num T n 3 p 0).1, 0) := by
              rw [pr_let, if_neg (fun y => by have := pr_lt_lt y.1; omega)]
            exact absurd (by rw [e]) hm
          · simpa using z
        simp only [Prod.mk.injEq, Option.some.injEq] at h
        obtain ⟨h1, h2, h3⟩ := h
        refine hP.1 p ts ws (pr_num T n 3 p 0).1 (pr_num T n 3 p 0).2 q (pr_let T n 6 (pr_num T n 3 p 0).1 0).2 hg rfl hd ?_ hm hf.2 (by omega) ?_
        · rw [← h1]
        · rw [h3]; exact kk
theorem rd_atom {T : Nat → Nat} {n dp : Nat} {vv : Tb} {P : Nat → List Tb → List Nat → Prop} (hn : n ≤ 40) (hP : rdR T n vv P) {B : Option (Nat → Nat → pr_R)} (hB : HB T n dp B) (hL : ∀ f, B = some f → BL T n P f) {p c q c' : Nat} {ts : List Tb} {ws : List Nat} {v : Tb} (hp : p ≤ n) (hc : c ≤ 12) (hl : ts.length ≤ c) (hw : ws.length ≤ p) (h : pr_atom T n B p c = (q, some (c', v))) (hf : fo T n q) (kk : ∀ v', eqv v' v → P q (v' :: ts) ws) : P p ts ws := by
  unfold pr_atom at h
  cases h40 : pr_se T n p 40 with
  | false =>
    rw [h40, if_pos rfl] at h
    exact rd_bundle hP hl h hf (kk v (fun _ _ => rfl))
  | true =>
    rw [h40, if_neg (by decide)] at h
    obtain ⟨hlt, hT⟩ := pr_se_lt h40
    cases B with
    | none => cases h
    | some f =>
      dsimp only at h
      cases hr : f (p + 1) c with
      | mk q1 o =>
        rw [hr] at h
        cases o with
        | none => cases h
        | some r =>
          dsimp only at h
          cases h41 : pr_se T n q1 41 with
          | false => rw [h41, if_neg (by decide)] at h; cases h
          | true =>
            rw [h41, if_pos rfl] at h
            cases h
            obtain ⟨hlt1, hT1⟩ := pr_se_lt h41
            refine hP.2.1 p ts ws hlt hT (by omega) (hL f rfl (p + 1) c ts (40 :: ws) q1 c' v hlt hc hl (by simp only [List.length_cons]; omega) (fun w r z => by cases z; decide) hr (fo_at h41 (Or.inl rfl)) (fun ts' ws' hb => ?_))
            obtain ⟨v', e, hR⟩ := hb.red (fun w r z => by cases z; decide)
            exact hP.2.2.2.1 q1 ts' ws' (v' :: ts) ws 40 hlt1 hT1 hR (kk v' e)
theorem capl_fo {T : Nat → Nat} {n k p c q c' : Nat} {v w : Tb} (h : pr_capl T n k p c v = (q, some (c', w))) (hf : fo T n q) : fo T n p := by
  cases k with
  | zero => cases h
  | succ k =>
    unfold pr_capl at h
    cases h60 : pr_se T n p 60 with
    | false => rw [h60, if_pos rfl] at h; cases h; exact hf
    | true => exact fo_at h60 (by decide)
theorem rd_capl {T : Nat → Nat} {n : Nat} {vv : Tb} {P : Nat → List Tb → List Nat → Prop} (hP : rdR T n vv P) {q c' : Nat} {ts : List Tb} {ws : List Nat} {w : Tb} (hf : fo T n q) (kk : ∀ v', eqv v' w → P q (v' :: ts) ws) : ∀ k p c (v v' : Tb), pr_capl T n k p c v = (q, some (c', w)) → eqv v' v → P p (v' :: ts) ws
  | 0, p, c, v, v', h, _ => by cases h
  | k + 1, p, c, v, v', h, e => by
    unfold pr_capl at h
    cases h60 : pr_se T n p 60 with
    | false => rw [h60, if_pos rfl] at h; cases h; exact kk v' e
    | true =>
      rw [h60, if_neg (by decide)] at h
      obtain ⟨hlt, hT⟩ := pr_se_lt h60
      by_cases h12 : 12 ≤ c
      · rw [if_pos h12] at h; cases h
      · rw [if_neg h12] at h
        cases hg : pr_dg T n (p + 1) with
        | false => rw [hg, if_pos rfl] at h; cases h
        | true =>
          rw [hg, if_neg (by decide)] at h
          refine hP.2.2.1 p v' ts ws (pr_num T n 3 (p + 1) 0).1 (pr_num T n 3 (p + 1) 0).2 hlt hT rfl (capl_fo h hf).1 ?_
          exact rd_capl hP hf kk k _ _ _ _ h (fun s hs => by rw [e s hs])
theorem rd_cap {T : Nat → Nat} {n dp : Nat} {vv : Tb} {P : Nat → List Tb → List Nat → Prop} (hn : n ≤ 40) (hP : rdR T n vv P) {B : Option (Nat → Nat → pr_R)} (hB : HB T n dp B) (hL : ∀ f, B = some f → BL T n P f) {p c q c' : Nat} {ts : List Tb} {ws : List Nat} {v : Tb} (hp : p ≤ n) (hc : c ≤ 12) (hl : ts.length ≤ c) (hw : ws.length ≤ p) (h : pr_cap T n B p c = (q, some (c', v))) (hf : fo T n q) (kk : ∀ v', eqv v' v → P q (v' :: ts) ws) : P p ts ws := by
  unfold pr_cap at h
  cases hr : pr_atom T n B p c with
  | mk q1 o =>
    rw [hr] at h
    cases o with
    | none => cases h
    | some r =>
      dsimp only at h
      exact rd_atom hn hP hB hL hp hc hl hw hr (capl_fo h hf) (fun v' e => rd_capl hP hf kk 13 q1 r.1 r.2 v' h e)
theorem rd_suml {T : Nat → Nat} {n dp : Nat} {vv : Tb} {P : Nat → List Tb → List Nat → Prop} (hn : n ≤ 40) (hP : rdR T n vv P) {B : Option (Nat → Nat → pr_R)} (hB : HB T n dp B) (hL : ∀ f, B = some f → BL T n P f) {q c' : Nat} {ts : List Tb} {ws : List Nat} {v : Tb} (hW : Wn ws) (hf : fo T n q) (kk : ∀ ts' ws', RS v ts ws ts' ws' → P q ts' ws') : ∀ k p c (acc a : Tb), p ≤ n → c ≤ 12 → ts.length + 1 ≤ c → ws.length + 1 ≤ p → eqv a acc → pr_suml T n B k p c acc = (q, some (c', v)) → P p (a :: ts) (43 :: ws)
  | 0, p, c, acc, a, _, _, _, _, _, h => by cases h
  | k + 1, p, c, acc, a, hp, hc, hl, hw, e, h => by
    unfold pr_suml at h
    cases hr : pr_cap T n B p c with
    | mk q1 o =>
      rw [hr] at h
      cases o with
      | none => cases h
      | some r =>
        obtain ⟨g1, g2, g3, g4, _⟩ := (XA_cap (ms := 0) hB hp hc).2 q1 r.1 r.2 hr
        dsimp only at h
        cases h43 : pr_se T n q1 43 with
        | false =>
          rw [h43, if_pos rfl] at h; cases h
          exact rd_cap hn hP hB hL hp hc (by simp only [List.length_cons]; omega) (by simp only [List.length_cons]; omega) hr hf (fun u hu => kk _ _ (Or.inr ⟨a, u, jn_congr e hu, rfl, rfl⟩))
        | true =>
          rw [h43, if_neg (by decide)] at h
          obtain ⟨hlt, hT⟩ := pr_se_lt h43
          by_cases h12 : 12 ≤ r.1
          · rw [if_pos h12] at h; cases h
          · rw [if_neg h12] at h
            refine rd_cap hn hP hB hL hp hc (by simp only [List.length_cons]; omega) (by simp only [List.length_cons]; omega) hr (fo_at h43 (by decide)) (fun u hu => ?_)
            refine hP.2.2.2.2.1 q1 (u :: a :: ts) (43 :: ws) (jw 43 a u :: ts) ws hlt (Or.inl hT) ?_ (by omega) ?_
            · rw [hT]; exact Red_43 hW
            · rw [hT]
              exact rd_suml hn hP hB hL hW hf kk k (q1 + 1) (r.1 + 1) _ (jw 43 a u) hlt (by omega) (by omega) (by omega) (by rw [jw_43]; exact jn_congr e hu) h
theorem rd_sum {T : Nat → Nat} {n dp : Nat} {vv : Tb} {P : Nat → List Tb → List Nat → Prop} (hn : n ≤ 40) (hP : rdR T n vv P) {B : Option (Nat → Nat → pr_R)} (hB : HB T n dp B) (hG : pr_B n B) (hL : ∀ f, B = some f → BL T n P f) {p c q c' : Nat} {ts : List Tb} {ws : List Nat} {v : Tb} (hW : Wn ws) (hp : p ≤ n) (hc : c ≤ 12) (hl : ts.length ≤ c) (hw : ws.length ≤ p) (h : pr_sum T n B p c = (q, some (c', v))) (hf : fo T n q) (kk : ∀ ts' ws', RS v ts ws ts' ws' → P q ts' ws') : P p ts ws := by
  unfold pr_sum pr_suml at h
  cases hr : pr_cap T n B p c with
  | mk q1 o =>
    rw [hr] at h
    cases o with
    | none => cases h
    | some r =>
      obtain ⟨g1, g2, g3, g4, _⟩ := (XA_cap (ms := 0) hB hp hc).2 q1 r.1 r.2 hr
      have hg := pr_cap_good (T := T) hG hp hc
      rw [hr] at hg
      have j0 := jn_0 (hg.2 r.1 r.2 rfl).2
      dsimp only at h
      cases h43 : pr_se T n q1 43 with
      | false =>
        rw [h43, if_pos rfl] at h; cases h
        exact rd_cap hn hP hB hL hp hc hl hw hr hf (fun u hu => kk _ _ (Or.inl ⟨u, fun s hs => (hu s hs).trans (j0 s hs).symm, rfl, rfl⟩))
      | true =>
        rw [h43, if_neg (by decide)] at h
        obtain ⟨hlt, hT⟩ := pr_se_lt h43
        by_cases h12 : 12 ≤ r.1
        · rw [if_pos h12] at h; cases h
        · rw [if_neg h12] at h
          refine rd_cap hn hP hB hL hp hc hl hw hr (fo_at h43 (by decide)) (fun u hu => ?_)
          refine hP.2.2.2.2.1 q1 (u :: ts) ws (u :: ts) ws hlt (Or.inl hT) ?_ (by omega) ?_
          · rw [hT]; exact Red_f hW
          · rw [hT]
            exact rd_suml hn hP hB hL hW hf kk 12 (q1 + 1) (r.1 + 1) _ u hlt (by omega) (by omega) (by omega) (fun s hs => (hu s hs).trans (j0 s hs).symm) h
theorem Wb_n {ws : List Nat} (h : Wb ws) : Wn ws := fun w r e => (h w r e).1
theorem rd_bidl {T : Nat → Nat} {n dp : Nat} {vv : Tb} {P : Nat → List Tb → List Nat → Prop} (hn : n ≤ 40) (hP : rdR T n vv P) {B : Option (Nat → Nat → pr_R)} (hB : HB T n dp B) (hG : pr_B n B) (hL : ∀ f, B = some f → BL T n P f) {q c' : Nat} {ts : List Tb} {ws : List Nat} {v : Tb} (hW : Wb ws) (hf : fo T n q) (kk : ∀ ts' ws', RB v ts ws ts' ws' → P q ts' ws') : ∀ k p c (acc a : Tb), p ≤ n → c ≤ 12 → ts.length + 1 ≤ c → ws.length + 1 ≤ p → eqv a acc → pr_bidl T n B k p c acc = (q, some (c', v)) → P p (a :: ts) (94 :: ws)
  | 0, p, c, acc, a, _, _, _, _, _, h => by cases h
  | k + 1, p, c, acc, a, hp, hc, hl, hw, e, h => by
    unfold pr_bidl at h
    cases hr : pr_sum T n B p c with
    | mk q1 o =>
      rw [hr] at h
      cases o with
      | none => cases h
      | some r =>
        obtain ⟨g1, g2, g3, g4, _⟩ := (XA_suml (ms := 0) (pl := p) (cl := c) hB 13 p c (fun _ => 0) (by omega) hc hp (Nat.le_refl _) (Nat.le_refl _)).2 q1 r.1 r.2 hr
        dsimp only at h
        cases h94 : pr_se T n q1 94 with
        | false =>
          rw [h94, if_pos rfl] at h; cases h
          exact rd_sum hn hP hB hG hL (fun w r z => by cases z; decide) hp hc (by simp only [List.length_cons]; omega) (by simp only [List.length_cons]; omega) hr hf (fun ts' ws' hs => kk _ _ (Or.inr ⟨a, r.2, fun s hs => by dsimp only; rw [e s hs], hs⟩))
        | true =>
          rw [h94, if_neg (by decide)] at h
          obtain ⟨hlt, hT⟩ := pr_se_lt h94
          by_cases h12 : 12 ≤ r.1
          · rw [if_pos h12] at h; cases h
          · rw [if_neg h12] at h
            refine rd_sum hn hP hB hG hL (fun w r z => by cases z; decide) hp hc (by simp only [List.length_cons]; omega) (by simp only [List.length_cons]; omega) hr (fo_at h94 (by decide)) (fun ts' ws' hs => ?_)
            obtain ⟨u, hu, hR⟩ := hs.red
            refine hP.2.2.2.2.1 q1 ts' ws' (jw 94 a u :: ts) ws hlt (Or.inr hT) ?_ (by omega) ?_
            · rw [hT]; exact hR _ _ _ (Red_94 hW)
            · rw [hT]
              exact rd_bidl hn hP hB hG hL hW hf kk k (q1 + 1) (r.1 + 1) _ (jw 94 a u) hlt (by omega) (by omega) (by omega) (fun s hs => by rw [jw_n (by decide), hu s hs, e s hs]) h
theorem rd_bid {T : Nat → Nat} {n dp : Nat} {vv : Tb} {P : Nat → List Tb → List Nat → Prop} (hn : n ≤ 40) (hP : rdR T n vv P) {B : Option (Nat → Nat → pr_R)} (hB : HB T n dp B) (hG : pr_B n B) (hL : ∀ f, B = some f → BL T n P f) : BL T n P (pr_bid T n B) := by
  intro p c ts ws q c' v hp hc hl hw hW h hf kk
  unfold pr_bid pr_bidl at h
  cases hr : pr_sum T n B p c with
  | mk q1 o =>
    rw [hr] at h
    cases o with
    | none => cases h
    | some r =>
      obtain ⟨g1, g2, g3, g4, _⟩ := (XA_suml (ms := 0) (pl := p) (cl := c) hB 13 p c (fun _ => 0) (by omega) hc hp (Nat.le_refl _) (Nat.le_refl _)).2 q1 r.1 r.2 hr
      have hg : pr_good n (pr_sum T n B p c) := pr_suml_good hG 13 p c _ hp hc tb_0
      rw [hr] at hg
      have m0 : eqv r.2 (fun s => max 0 (r.2 s)) := fun s hs => by have := ((hg.2 r.1 r.2 rfl).2.b hs).1; dsimp only; omega
      dsimp only at h
      cases h94 : pr_se T n q1 94 with
      | false =>
        rw [h94, if_pos rfl] at h; cases h
        exact rd_sum hn hP hB hG hL (Wb_n hW) hp hc hl hw hr hf (fun ts' ws' hs => kk _ _ (Or.inl (hs.to m0)))
      | true =>
        rw [h94, if_neg (by decide)] at h
        obtain ⟨hlt, hT⟩ := pr_se_lt h94
        by_cases h12 : 12 ≤ r.1
        · rw [if_pos h12] at h; cases h
        · rw [if_neg h12] at h
          refine rd_sum hn hP hB hG hL (Wb_n hW) hp hc hl hw hr (fo_at h94 (by decide)) (fun ts' ws' hs => ?_)
          obtain ⟨u, hu, hR⟩ := hs.red
          refine hP.2.2.2.2.1 q1 ts' ws' (u :: ts) ws hlt (Or.inr hT) ?_ (by omega) ?_
          · rw [hT]; exact hR _ _ _ (Red_t hW)
          · rw [hT]
            exact rd_bidl hn hP hB hG hL hW hf kk 12 (q1 + 1) (r.1 + 1) _ u hlt (by omega) (by omega) (by omega) (fun s hs => (hu s hs).trans (m0 s hs)) h
theorem rd_bidk {T : Nat → Nat} {n : Nat} {vv : Tb} {P : Nat → List Tb → List Nat → Prop} (hn : n ≤ 40) (hP : rdR T n vv P) : ∀ k dp, dp + k = 8 → BL T n P (pr_bidk T n k)
  | 0, dp, hk => rd_bid (dp := dp) (B := none) hn hP ⟨fun _ => by omega, fun f z => by cases z⟩ (fun f z => by cases z) (fun f z => by cases z)
  | k + 1, dp, hk => rd_bid (dp := dp) (B := some (pr_bidk T n k)) hn hP ⟨fun z => (by cases z), fun f z => by cases z; exact ⟨by omega, fun p c ms hp hc => XA_bidk k (dp + 1) p c ms (by omega) hp hc⟩⟩ (fun f z => by cases z; exact fun p c hp hc => pr_bidk_good k p c hp hc) (fun f z => by cases z; exact rd_bidk hn hP k (dp + 1) (by omega))
/-- where the class reads a bid, the reference's reader ends with its table -/
theorem rd_all {T : Nat → Nat} {n c : Nat} {v : Tb} (hn : n ≤ 40) (h : pr_read T n = .inr (c, v)) (P : Nat → List Tb → List Nat → Prop) (hP : rdR T n v P) : P 0 [] [] := by
  unfold pr_read at h
  cases hr : pr_bidk T n 8 0 0 with
  | mk q o =>
    rw [hr] at h
    cases o with
    | none => cases h
    | some r =>
      dsimp only at h
      by_cases hq : q = n
      · rw [if_pos hq] at h
        cases h
        subst hq
        refine rd_bidk hn hP 8 0 rfl 0 0 [] [] q c v (Nat.zero_le _) (by decide) (Nat.le_refl _) (Nat.le_refl _) (fun w r z => by cases z) hr ⟨decide_eq_false (fun z => by omega), decide_eq_false (fun z => by omega)⟩ (fun ts' ws' hb => ?_)
        obtain ⟨v', e, hR⟩ := hb.red (fun w r z => by cases z)
        exact hP.2.2.2.2.2 ts' ws' v' hR e
      · rw [if_neg hq] at h; cases h
end
section
set_option maxRecDepth 100000 in
set_option maxHeartbeats 4000000 in
theorem c_M_submit {l : Launch} {x : am_X} {e L : Nat} {d : am_D} {cash esc pd pt ow : Nat → Int32} {res : Nat → Int} {wt : Nat → Nat → Int} {T : Nat → Nat} {n : Nat} {se : Int32} {cl : Bool} (h : RM cash esc pd pt ow res wt T n se cl d) (v : Int32) : cM l x (e + 4) L m_M_submit [.ref 40, .int v] d (fun r d' => r = some (.int (subA esc cl T n v)) ∧ RM cash esc pd (subP pt esc cl T n v) ow res (subW wt esc cl T n v) T (if opB cl v then 0 else n) se cl d' ∧ fM d d') := by
  obtain ⟨h1, h2, h3, h4, h5, h6, h7, h8, h9, h10⟩ := id h
  refine cM.go (by decide) (by simp [Value.category]) (Nat.le_of_ble_eq_true rfl) ?_
  refine am_go cd_M_submit hc_M_submit 0 1 (pc' := 1) (L' := [some (.ref 40), some (.int v), none, none]) (st' := [.ref 40]) rfl ?_
  refine am_getf 3 0 k_r3 (am_at hc_M_submit 1 rfl) rfl (by decide) rfl (by decide) k_ok3 (Or.inl (tw 306 rfl rfl)) (congrArg Value.int h10) ?_
  cases cl with
  | true =>
    simp only [bI_t]
    refine am_if_ne 14 (am_at hc_M_submit 2 rfl) (by decide) (fun q0 => ?_) (fun q0 => absurd q0 (by decide))
    have hno : ¬ opB true v := fun z => by cases z.1
    simp only [subA, subW, subP, if_neg hno]
    refine am_go cd_M_submit hc_M_submit 6 1 (pc' := 16) (L' := [some (.ref 40), some (.int v), none, none]) (st' := [.int (-2)]) rfl ?_
    exact am_iret (am_at hc_M_submit 7 rfl) rfl rfl ⟨rfl, rfl, rfl, h, fM.rf⟩
  | false =>
    simp only [bI_f]
    refine am_if_ne 14 (am_at hc_M_submit 2 rfl) (by decide) (fun q0 => absurd rfl q0) (fun q0 => ?_)
    refine am_go cd_M_submit hc_M_submit 3 1 (pc' := 8) (L' := [some (.ref 40), some (.int v), none, none]) (st' := [.int v]) rfl ?_
    refine cW.callS1 11 [.int (if isB v then 1 else 0)] (st := []) [.int v] (am_at hc_M_submit 4 rfl) g_M_bidder (Or.inl (tw 368 rfl rfl)) (tw 369 rfl rfl) rfl rfl (Nat.le_of_ble_eq_true rfl) (c_mB v) rfl rfl ?_
    by_cases hb : isB v
    · simp only [if_pos hb]
      refine am_if_ne 17 (am_at hc_M_submit 5 rfl) (by decide) (fun q1 => ?_) (fun q1 => absurd q1 (by decide))
      have hok : opB false v := ⟨rfl, hb⟩
      simp only [subA, subW, subP, if_pos hok]
      obtain ⟨b, hb5, rfl⟩ := isB_of hb
      simp only [nI_cl (show b < 1000000 by omega)]
      have htm : tm d T n := h8
      have hn40 := h8.2.1
      refine am_go cd_M_submit hc_M_submit 8 1 (pc' := 18) (L' := [some (.ref 40), some (.int (nI b)), none, none]) (st' := [.ref 40]) rfl ?_
      refine cW.callV (st := []) [] (am_at hc_M_submit 9 rfl) g_M_fault (Or.inl (tw 397 rfl rfl)) (tw 399 rfl rfl) (tp 19 rfl rfl) 3 k_r3 rfl (by decide) rfl rfl rfl rfl (Nat.le_of_ble_eq_true rfl) (c_M_fault (e := e + 2) htm) ?_
      rintro _ d1 ⟨rfl, vf, hd1, hvf⟩
      show cW _ _ (e + 4) _ m_M_submit 21 [some (.ref 40), some (.int (nI b)), none, none] [.int (zI (au_run T n n 0 0 0 0 0).1)] _ _
      obtain ⟨a1, a2⟩ := au_read T n
      obtain ⟨gd1, gd2⟩ := pr_read_good T n
      have hR1 : RM cash esc pd pt ow res wt T n se false d1 := by rw [hd1]; exact h.off (fun j hj => am_u_o (fun z => by omega)) (fun a ha => am_u_ne a (by omega))
      have hf1 : fM d d1 := by rw [hd1]; exact fM.u (by decide)
      have hv15 : d1 40 15 = vf := by rw [hd1]; exact am_u_i
      have hall := fun (c : Nat) (tb : Tb) hh => rd_all (T := T) (n := n) (c := c) (v := tb) hn40 hh
      generalize hRR : pr_read T n = RR at a1 a2 gd1 gd2 hall ⊢
      cases RR with
      | inl q =>
        have hq := gd1 q rfl
        have ea := a1 q rfl
        rw [ea, ← nI_zI]
        refine am_go cd_M_submit hc_M_submit 10 2 (pc' := 23) (L' := [some (.ref 40), some (.int (nI b)), some (.int (nI q)), none]) (st' := [.int (nI q)]) rfl ?_
        refine am_if_ge 30 (am_at hc_M_submit 12 rfl) (by decide) (fun q3 => ?_) (fun q3 => absurd (by first | exact nI_pos (by omega) | exact Int32.not_lt.mp (nI_pos (by omega))) q3)
        refine am_go cd_M_submit hc_M_submit 15 2 (pc' := 32) (L' := [some (.ref 40), some (.int (nI b)), some (.int (nI q)), none]) (st' := [.int 0, .ref 40]) rfl ?_
        refine am_putI 3 5 k_r3 (am_at hc_M_submit 17 rfl) rfl (by decide) rfl (by decide) k_ok3 (tw 311 rfl rfl) rfl rfl rfl rfl ?_
        refine am_go cd_M_submit hc_M_submit 18 1 (pc' := 36) (L' := [some (.ref 40), some (.int (nI b)), some (.int (nI q)), none]) (st' := [.int (nI q)]) rfl ?_
        refine am_if_lt 41 (am_at hc_M_submit 19 rfl) (by decide) (fun q4 => absurd q4 (nI_pos (by omega))) (fun q4 => ?_)
        refine am_go cd_M_submit hc_M_submit 20 1 (pc' := 40) (L' := [some (.ref 40), some (.int (nI b)), some (.int (nI q)), none]) (st' := [.int (nI q)]) rfl ?_
        exact am_iret (am_at hc_M_submit 21 rfl) rfl rfl ⟨rfl, rfl, rfl, hR1.n0, hf1.tr (fM.u (by decide))⟩
      | inr r =>
        obtain ⟨c, tb⟩ := r
        obtain ⟨g1, g2⟩ := gd2 c tb rfl
        have ea := a2 c tb rfl
        rw [ea] at hvf ⊢
        have hvc : vf = nI c := hvf rfl
        show cW _ _ (e + 4) _ m_M_submit 21 [some (.ref 40), some (.int (nI b)), none, none] [.int (-1)] _ _
        refine am_go cd_M_submit hc_M_submit 10 2 (pc' := 23) (L' := [some (.ref 40), some (.int (nI b)), some (.int (-1)), none]) (st' := [.int (-1)]) rfl ?_
        refine am_if_ge 30 (am_at hc_M_submit 12 rfl) (by decide) (fun q3 => absurd q3 (by decide)) (fun q3 => ?_)
        refine am_go cd_M_submit hc_M_submit 13 1 (pc' := 27) (L' := [some (.ref 40), some (.int (nI b)), some (.int (-1)), none]) (st' := [.ref 40]) rfl ?_
        refine cW.callV (st := []) [] (am_at hc_M_submit 14 rfl) g_M_read (Or.inl (tw 409 rfl rfl)) (tw 411 rfl rfl) (tp 22 rfl rfl) 3 k_r3 rfl (by decide) rfl rfl rfl rfl (Nat.le_of_ble_eq_true rfl) (c_M_read (hR1.2.2.2.2.2.2.2.1) (hall c tb rfl)) ?_
        rintro _ d2 ⟨rfl, hF, htb⟩
        show cW _ _ (e + 4) _ m_M_submit 30 [some (.ref 40), some (.int (nI b)), some (.int (-1)), none] [] _ _
        have hR2 : RM cash esc pd pt ow res wt T n se false d2 := hR1.off (fun j hj => hF.2 j (by omega) (by omega) (by omega)) (fun a ha => hF.1 a (by omega) (by omega) (by omega) (by omega))
        have hf2 : fM d d2 := hf1.tr (fun a ha => hF.1 a (by omega) (by omega) (by omega) (by omega))
        have hc15 : d2 40 15 = nI c := ((hF.2 15 (by decide) (by decide) (by decide)).trans hv15).trans hvc
        refine am_go cd_M_submit hc_M_submit 15 2 (pc' := 32) (L' := [some (.ref 40), some (.int (nI b)), some (.int (-1)), none]) (st' := [.int 0, .ref 40]) rfl ?_
        refine am_putI 3 5 k_r3 (am_at hc_M_submit 17 rfl) rfl (by decide) rfl (by decide) k_ok3 (tw 311 rfl rfl) rfl rfl rfl rfl ?_
        have hR3 := hR2.n0
        have hf3 : fM d (am_u d2 40 5 0) := hf2.tr (fM.u (by decide))
        have htb3 : ∀ s, s < 64 → am_u d2 40 5 0 47 s = zI (tb s) := fun s hs => by rw [am_u_ne 47 (by decide)]; exact htb s hs
        have hc3 : am_u d2 40 5 0 40 15 = nI c := (am_u_o (by decide)).trans hc15
        generalize am_u d2 40 5 0 = d3 at hR3 hf3 htb3 hc3 ⊢
        refine am_go cd_M_submit hc_M_submit 18 1 (pc' := 36) (L' := [some (.ref 40), some (.int (nI b)), some (.int (-1)), none]) (st' := [.int (-1)]) rfl ?_
        refine am_if_lt 41 (am_at hc_M_submit 19 rfl) (by decide) (fun q4 => ?_) (fun q4 => absurd (by decide) q4)
        refine am_go cd_M_submit hc_M_submit 22 1 (pc' := 42) (L' := [some (.ref 40), some (.int (nI b)), some (.int (-1)), none]) (st' := [.ref 40]) rfl ?_
        refine am_getf 3 9 k_r3 (am_at hc_M_submit 23 rfl) rfl (by decide) rfl (by decide) k_ok3 (Or.inl (tw 315 rfl rfl)) rfl ?_
        refine am_go cd_M_submit hc_M_submit 24 1 (pc' := 47) (L' := [some (.ref 40), some (.int (nI b)), some (.int (-1)), none]) (st' := [.int 63, .ref 47]) rfl ?_
        refine am_iaload (63) (am_at hc_M_submit 25 rfl) rfl (Or.inl (by decide)) rfl (Nat.le_of_ble_eq_true rfl) (Nat.le_of_ble_eq_true rfl) ?_
        rw [show d3 47 63 = zI (tb 63) from htb3 63 (by decide)]
        refine am_go cd_M_submit hc_M_submit 26 1 (pc' := 49) (L' := [some (.ref 40), some (.int (nI b)), some (.int (-1)), none]) (st' := [.ref 40, .int (zI (tb 63))]) rfl ?_
        refine am_getf 3 2 k_r3 (am_at hc_M_submit 27 rfl) rfl (by decide) rfl (by decide) k_ok3 (Or.inl (tw 308 rfl rfl)) rfl ?_
        refine am_go cd_M_submit hc_M_submit 28 1 (pc' := 53) (L' := [some (.ref 40), some (.int (nI b)), some (.int (-1)), none]) (st' := [.int (nI b), .ref 42, .int (zI (tb 63))]) rfl ?_
        refine am_iaload (b) (am_at hc_M_submit 29 rfl) rfl (Or.inl (by decide)) rfl (by show b < 5; omega) (Nat.le_of_ble_eq_true rfl) ?_
        rw [show d3 42 b = esc b from hR3.2.1 b hb5]
        refine am_icmp_le 60 (am_at hc_M_submit 30 rfl) (by decide) (fun q5 => ?_) (fun q5 => ?_)
        · have hno : ¬ esc b < zI (tb 63) := Int32.not_lt.mpr q5
          simp only [if_neg hno]
          refine am_go cd_M_submit hc_M_submit 33 2 (pc' := 62) (L' := [some (.ref 40), some (.int (nI b)), some (.int (-1)), some (.int 0)]) (st' := []) rfl ?_
          have loop : ∀ q j, j + q = 64 → cW l x (e + 4) L m_M_submit 62 [some (.ref 40), some (.int (nI b)), some (.int (-1)), some (.int (nI j))] [] (am_sg d3 45 (64 * b) j (fun s => zI (tb s))) (fun r d' => r = some (.int (-1)) ∧ RM cash esc pd (upd pt b (nI c)) ow res (updw wt b tb) T 0 se false d' ∧ fM d d') := by
            intro q
            induction q with
            | zero =>
              intro j hj
              have hj64 : j = 64 := by omega
              subst hj64
              refine am_go cd_M_submit hc_M_submit 35 2 (pc' := 65) (L' := [some (.ref 40), some (.int (nI b)), some (.int (-1)), some (.int (nI 64))]) (st' := [.int 64, .int (nI 64)]) rfl ?_
              refine am_icmp_ge 91 (am_at hc_M_submit 37 rfl) (by decide) (fun q6 => ?_) (fun q6 => absurd (nI_le (a := 64) (b := 64) (by omega) (by omega)) q6)
              refine am_go cd_M_submit hc_M_submit 52 1 (pc' := 92) (L' := [some (.ref 40), some (.int (nI b)), some (.int (-1)), some (.int (nI 64))]) (st' := [.ref 40]) rfl ?_
              refine am_getf 3 8 k_r3 (am_at hc_M_submit 53 rfl) rfl (by decide) rfl (by decide) k_ok3 (Or.inl (tw 314 rfl rfl)) rfl ?_
              refine am_go cd_M_submit hc_M_submit 54 2 (pc' := 97) (L' := [some (.ref 40), some (.int (nI b)), some (.int (-1)), some (.int (nI 64))]) (st' := [.ref 40, .int (nI b), .ref 46]) rfl ?_
              refine am_getf 3 15 k_r3 (am_at hc_M_submit 56 rfl) rfl (by decide) rfl (by decide) k_ok3 (Or.inl (tw 321 rfl rfl)) (congrArg Value.int ((congrFun (am_sg_ne (by decide)) 15).trans hc3)) ?_
              refine am_iastore (b) (am_at hc_M_submit 57 rfl) rfl (by decide) rfl (by show b < 5; omega) (Nat.le_of_ble_eq_true rfl) ?_
              refine am_go cd_M_submit hc_M_submit 58 1 (pc' := 102) (L' := [some (.ref 40), some (.int (nI b)), some (.int (-1)), some (.int (nI 64))]) (st' := [.int (-1)]) rfl ?_
              exact am_iret (am_at hc_M_submit 59 rfl) rfl rfl ⟨rfl, rfl, rfl, (hR3.wt hb5 g2 (fun s _ => rfl)).pt, (hf3.tr (fM.s (by decide))).tr (fM.u (by decide))⟩
            | succ q ih =>
              intro j hj
              refine am_go cd_M_submit hc_M_submit 35 2 (pc' := 65) (L' := [some (.ref 40), some (.int (nI b)), some (.int (-1)), some (.int (nI j))]) (st' := [.int 64, .int (nI j)]) rfl ?_
              refine am_icmp_ge 91 (am_at hc_M_submit 37 rfl) (by decide) (fun q6 => absurd q6 (nI_ge (a := j) (b := 64) (by omega) (by omega))) (fun q6 => ?_)
              refine am_go cd_M_submit hc_M_submit 38 1 (pc' := 69) (L' := [some (.ref 40), some (.int (nI b)), some (.int (-1)), some (.int (nI j))]) (st' := [.ref 40]) rfl ?_
              refine am_getf 3 7 k_r3 (am_at hc_M_submit 39 rfl) rfl (by decide) rfl (by decide) k_ok3 (Or.inl (tw 313 rfl rfl)) rfl ?_
              refine am_go cd_M_submit hc_M_submit 40 3 (pc' := 76) (L' := [some (.ref 40), some (.int (nI b)), some (.int (-1)), some (.int (nI j))]) (st' := [.int (64 * nI b), .ref 45]) rfl ?_
              rw [show 64 * nI b = nI (64 * b) from pk_mul 64 b]
              refine am_go cd_M_submit hc_M_submit 43 2 (pc' := 78) (L' := [some (.ref 40), some (.int (nI b)), some (.int (-1)), some (.int (nI j))]) (st' := [.int (nI (64 * b) + nI j), .ref 45]) rfl ?_
              rw [show nI (64 * b) + nI j = nI (64 * b + j) from nI_add _ _]
              refine am_go cd_M_submit hc_M_submit 45 1 (pc' := 79) (L' := [some (.ref 40), some (.int (nI b)), some (.int (-1)), some (.int (nI j))]) (st' := [.ref 40, .int (nI (64 * b + j)), .ref 45]) rfl ?_
              refine am_getf 3 9 k_r3 (am_at hc_M_submit 46 rfl) rfl (by decide) rfl (by decide) k_ok3 (Or.inl (tw 315 rfl rfl)) rfl ?_
              refine am_go cd_M_submit hc_M_submit 47 1 (pc' := 83) (L' := [some (.ref 40), some (.int (nI b)), some (.int (-1)), some (.int (nI j))]) (st' := [.int (nI j), .ref 47, .int (nI (64 * b + j)), .ref 45]) rfl ?_
              refine am_iaload (j) (am_at hc_M_submit 48 rfl) rfl (Or.inl (by decide)) rfl (by show j < 832; omega) (Nat.le_of_ble_eq_true rfl) ?_
              rw [show am_sg d3 45 (64 * b) j (fun s => zI (tb s)) 47 j = (fun s => zI (tb s)) j from (congrFun (am_sg_ne (by decide)) j).trans (htb3 j (by omega))]
              refine am_iastore (64 * b + j) (am_at hc_M_submit 49 rfl) rfl (by decide) rfl (by show 64 * b + j < 320; omega) (Nat.le_of_ble_eq_true rfl) ?_
              rw [am_sg_s d3 45 (64 * b) j (fun s => zI (tb s))]
              refine am_go cd_M_submit hc_M_submit 50 2 (pc' := 62) (L' := [some (.ref 40), some (.int (nI b)), some (.int (-1)), some (.int (nI j + 1))]) (st' := []) rfl ?_
              rw [nI_1]
              exact ih (j + 1) (by omega)
          have h0 := loop 64 0 rfl
          rw [am_sg_0] at h0
          exact h0
        · have hyes : esc b < zI (tb 63) := Int32.not_le.mp q5
          simp only [if_pos hyes]
          refine am_go cd_M_submit hc_M_submit 31 1 (pc' := 59) (L' := [some (.ref 40), some (.int (nI b)), some (.int (-1)), none]) (st' := [.int (-3)]) rfl ?_
          exact am_iret (am_at hc_M_submit 32 rfl) rfl rfl ⟨rfl, rfl, rfl, hR3, hf3⟩
    · simp only [if_neg hb]
      refine am_if_ne 17 (am_at hc_M_submit 5 rfl) (by decide) (fun q1 => absurd rfl q1) (fun q1 => ?_)
      have hno : ¬ opB false v := fun z => hb z.2
      simp only [subA, subW, subP, if_neg hno]
      refine am_go cd_M_submit hc_M_submit 6 1 (pc' := 16) (L' := [some (.ref 40), some (.int v), none, none]) (st' := [.int (-2)]) rfl ?_
      exact am_iret (am_at hc_M_submit 7 rfl) rfl rfl ⟨rfl, rfl, rfl, h, fM.rf⟩
end
section
theorem am_nw_id {S : am_S} {a : Nat} {k : Nat × Nat × (Nat → Option Nat)} (h : S a = k) : am_nw S a k = S := by
  funext b; unfold am_nw
  by_cases z : b = a
  · rw [if_pos z, z, h]
  · rw [if_neg z]
theorem am_ms_id {S : am_S} {n N M : Nat} (h : S n = (2, N, fun j => if j < N then some (n + 1 + j) else none)) (h2 : ∀ b, n < b → b ≤ n + N → S b = (0, M, fun _ => none)) : am_ms S n N M = S := by
  funext b; unfold am_ms
  by_cases z : b = n
  · rw [if_pos z, z, h]
  · rw [if_neg z]
    by_cases z2 : n < b ∧ b ≤ n + N
    · rw [if_pos z2, h2 b z2.1 z2.2]
    · rw [if_neg z2]
theorem sn_newI {l : Launch} {C : am_Cfg} {x : am_X} {dep bc bs pc : Nat} {mi : am_M} {L : List (Option Value)} {st : List Value} {S : am_S} {nn : Nat} {d : am_D} {Q : Option Value → am_S → Nat → am_D → Prop} {v : Int32} (N : Nat) (hd : decode mi.2.1 pc = .ok (.newarray .int, 2)) (hw : Cond.arrayClass .int ∈ am_ts C) (hv : v = nI N) (hN : N ≤ 100000) (hn : nn < 1000) (hS : S nn = (0, N, fun _ => none)) (kk : am_W l C x dep bc bs mi (pc + 2) L (.ref nn :: st) S (nn + 1) (am_nd d nn (fun _ => 0)) Q) : am_W l C x dep (bc + 1) (bs + N) mi pc L (.int v :: st) S nn d Q := by
  refine am_newI N hd hw hv hN hn ?_
  rw [am_nw_id hS]; exact kk
theorem sn_newC {l : Launch} {C : am_Cfg} {x : am_X} {dep bc bs pc : Nat} {mi : am_M} {L : List (Option Value)} {st : List Value} {S : am_S} {nn : Nat} {d : am_D} {Q : Option Value → am_S → Nat → am_D → Prop} {v : Int32} (N : Nat) (hd : decode mi.2.1 pc = .ok (.newarray .char, 2)) (hw : Cond.arrayClass .char ∈ am_ts C) (hv : v = nI N) (hN : N ≤ 100000) (hn : nn < 1000) (hS : S nn = (1, N, fun _ => none)) (kk : am_W l C x dep bc bs mi (pc + 2) L (.ref nn :: st) S (nn + 1) (am_nd d nn (fun _ => 0)) Q) : am_W l C x dep (bc + 1) (bs + N) mi pc L (.int v :: st) S nn d Q := by
  refine am_newC N hd hw hv hN hn ?_
  rw [am_nw_id hS]; exact kk
theorem sn_new {l : Launch} {C : am_Cfg} {x : am_X} {dep bc bs pc : Nat} {mi : am_M} {L : List (Option Value)} {st : List Value} {S : am_S} {nn : Nat} {d : am_D} {Q : Option Value → am_S → Nat → am_D → Prop} {idx : Nat} {ty0 : Nat → FieldType} (ci : Nat) (r : vw_C) (hd : decode mi.2.1 pc = .ok (.new idx, 3)) (hr : (am_cl C)[ci]? = some r) (hok : am_clok C r ty0) (hl : Cond.classLink mi.1.cls idx r.1 ∈ am_ts C) (hi : Cond.instantiable r.1 r.2.2 ∈ am_ts C) (hini : Cond.initialized r.1 ∈ am_ts C) (hdef : ∀ j, j < r.2.2 → defaultValue (ty0 j) = if am_rf C ci j = true then .null else .int 0) (hn : nn < 1000) (hS : S nn = (ci + 3, r.2.2, fun _ => none)) (kk : am_W l C x dep bc bs mi (pc + 3) L (.ref nn :: st) S (nn + 1) (am_nd d nn (fun _ => 0)) Q) : am_W l C x dep (bc + 1) (bs + r.2.2) mi pc L st S nn d Q := by
  refine am_new ci r hd hr hok hl hi hini hdef hn ?_
  rw [am_nw_id hS]; exact kk
theorem sn_multi {l : Launch} {C : am_Cfg} {x : am_X} {dep bc bs pc : Nat} {mi : am_M} {L : List (Option Value)} {st : List Value} {S : am_S} {nn : Nat} {d : am_D} {Q : Option Value → am_S → Nat → am_D → Prop} {idx : Nat} {u v : Int32} (N M : Nat) (hd : decode mi.2.1 pc = .ok (.multianewarray idx 2, 4)) (hl : Cond.classLink mi.1.cls idx ("[" ++ (FieldType.array .int).toString) ∈ am_ts C) (hw : Cond.arrayClass .int ∈ am_ts C) (hw2 : Cond.arrayOver (.array .int) ∈ am_ns C) (hu : u = nI N) (hv : v = nI M) (hN : N ≤ 500) (hM : M ≤ 100000) (hn : nn + 1 + N ≤ 1000) (hS : S nn = (2, N, fun j => if j < N then some (nn + 1 + j) else none)) (hS2 : ∀ b, nn < b → b ≤ nn + N → S b = (0, M, fun _ => none))
    (kk : am_W l C x dep bc bs mi (pc + 4) L (.ref nn :: st) S (nn + 1 + N) (am_md d nn N) Q) : am_W l C x dep (bc + (1 + N)) (bs + (N + N * M)) mi pc L (.int v :: .int u :: st) S nn d Q := by
  refine am_multi N M hd hl hw hw2 hu hv hN hM hn ?_
  rw [am_ms_id hS hS2]; exact kk
/-- the shape while the objects' references are still being set -/
def SHn (L : Nat) (f0 f13 f36 f40 : Nat → Option Nat) : am_S := fun a => if a = 0 then (3, 11, f0) else if a = 13 then (4, 8, f13) else if a = 36 then (5, 3, f36) else if a = 40 then (6, 19, f40) else SH L a
def us (f : Nat → Option Nat) (j r : Nat) : Nat → Option Nat := fun k => if k = j then some r else f k
def un : Nat → Option Nat := fun _ => none
theorem SHn_0 {L : Nat} {f0 f13 f36 f40 : Nat → Option Nat} (j r : Nat) : am_r (SHn L f0 f13 f36 f40) 0 j r = SHn L (us f0 j r) f13 f36 f40 := by
  funext b; unfold am_r
  by_cases z : b = 0
  · rw [if_pos z, z]; rfl
  · rw [if_neg z]; unfold SHn; rw [if_neg z, if_neg z]
theorem SHn_13 {L : Nat} {f0 f13 f36 f40 : Nat → Option Nat} (j r : Nat) : am_r (SHn L f0 f13 f36 f40) 13 j r = SHn L f0 (us f13 j r) f36 f40 := by
  funext b; unfold am_r
  by_cases z : b = 13
  · rw [if_pos z, z]; rfl
  · rw [if_neg z]; unfold SHn; rw [if_neg z, if_neg z]
theorem SHn_36 {L : Nat} {f0 f13 f36 f40 : Nat → Option Nat} (j r : Nat) : am_r (SHn L f0 f13 f36 f40) 36 j r = SHn L f0 f13 (us f36 j r) f40 := by
  funext b; unfold am_r
  by_cases z : b = 36
  · rw [if_pos z, z]; rfl
  · rw [if_neg z]; unfold SHn; rw [if_neg z, if_neg z]
theorem SHn_40 {L : Nat} {f0 f13 f36 f40 : Nat → Option Nat} (j r : Nat) : am_r (SHn L f0 f13 f36 f40) 40 j r = SHn L f0 f13 f36 (us f40 j r) := by
  funext b; unfold am_r
  by_cases z : b = 40
  · rw [if_pos z, z]; rfl
  · rw [if_neg z]; unfold SHn; rw [if_neg z, if_neg z]
theorem SHn_w (L : Nat) (f0 f13 f36 f40 : Nat → Option Nat) : ∀ b, 7 < b → b ≤ 7 + 5 → SHn L f0 f13 f36 f40 b = (0, 64, fun _ => none) := by
  intro b h1 h2
  have h : b = 8 ∨ b = 9 ∨ b = 10 ∨ b = 11 ∨ b = 12 := by omega
  rcases h with rfl | rfl | rfl | rfl | rfl <;> rfl
theorem SHn_c (L : Nat) (f0 f13 f36 f40 : Nat → Option Nat) : ∀ b, 16 < b → b ≤ 16 + 9 → SHn L f0 f13 f36 f40 b = (0, 64, fun _ => none) := by
  intro b h1 h2
  have h : b = 17 ∨ b = 18 ∨ b = 19 ∨ b = 20 ∨ b = 21 ∨ b = 22 ∨ b = 23 ∨ b = 24 ∨ b = 25 := by omega
  rcases h with rfl | rfl | rfl | rfl | rfl | rfl | rfl | rfl | rfl <;> rfl
theorem SHn_s (L : Nat) (f0 f13 f36 f40 : Nat → Option Nat) : ∀ b, 26 < b → b ≤ 26 + 9 → SHn L f0 f13 f36 f40 b = (0, 64, fun _ => none) := by
  intro b h1 h2
  have h : b = 27 ∨ b = 28 ∨ b = 29 ∨ b = 30 ∨ b = 31 ∨ b = 32 ∨ b = 33 ∨ b = 34 ∨ b = 35 := by omega
  rcases h with rfl | rfl | rfl | rfl | rfl | rfl | rfl | rfl | rfl <;> rfl
/-- the outer rows unchanged, all new ints 0 -/
def Zd (n : Nat) (d0 d : am_D) : Prop := (∀ a, 1000 ≤ a → d a = d0 a) ∧ ∀ a, a < n → a ≠ 7 → a ≠ 16 → a ≠ 26 → a ≠ 37 → ∀ j, d a j = 0
theorem Zd.nd {n : Nat} {d0 d : am_D} (h : Zd n d0 d) (hn : n < 1000) : Zd (n + 1) d0 (am_nd d n (fun _ => 0)) := by
  refine ⟨fun a ha => ?_, fun a ha h1 h2 h3 h4 j => ?_⟩
  · rw [am_nd_ne (by omega)]; exact h.1 a ha
  · by_cases z : a = n
    · rw [z, am_nd_self]
    · rw [am_nd_ne z]; exact h.2 a (by omega) h1 h2 h3 h4 j
theorem Zd.md {n N : Nat} {d0 d : am_D} (h : Zd n d0 d) (hn : n = 7 ∨ n = 16 ∨ n = 26) (hN : n + 1 + N ≤ 1000) : Zd (n + 1 + N) d0 (am_md d n N) := by
  refine ⟨fun a ha => ?_, fun a ha h1 h2 h3 h4 j => ?_⟩
  · unfold am_md; rw [if_neg (by omega)]; exact h.1 a ha
  · unfold am_md
    by_cases z : n < a ∧ a ≤ n + N
    · rw [if_pos z]
    · rw [if_neg z]; exact h.2 a (by omega) h1 h2 h3 h4 j
theorem Zd.u {n a k : Nat} {d0 d : am_D} (h : Zd n d0 d) (ha : a < 1000) : Zd n d0 (am_u d a k 0) := by
  refine ⟨fun b hb => ?_, fun b hb h1 h2 h3 h4 j => ?_⟩
  · rw [am_u_ne b (by omega)]; exact h.1 b hb
  · by_cases z : b = a ∧ j = k
    · rw [z.1, z.2]; exact am_u_i
    · rw [am_u_o z]; exact h.2 b hb h1 h2 h3 h4 j
theorem Zd.t37 {n k : Nat} {F : Nat → Int32} {d0 d : am_D} (h : Zd n d0 d) : Zd n d0 (am_tb d 37 k F) := by
  refine ⟨fun b hb => ?_, fun b hb h1 h2 h3 h4 j => ?_⟩
  · rw [am_tb_ne (by omega)]; exact h.1 b hb
  · rw [am_tb_ne h4]; exact h.2 b hb h1 h2 h3 h4 j
set_option maxRecDepth 100000 in
set_option maxHeartbeats 4000000 in
theorem c_B_init {l : Launch} {x : am_X} {e L : Nat} {d0 d : am_D} {f0 f36 f40 : Nat → Option Nat} (hz : Zd 14 d0 d) : am_Met l K0 x (e + 1) 22 1274 m_B_init [.ref 13] (SHn L f0 un f36 f40) 14 d (fun r S n d' => r = none ∧ S = SHn L f0 (us (us (us (us un 0 14) 5 15) 6 16) 7 26) f36 f40 ∧ n = 36 ∧ Zd 36 d0 d') := by
  refine am_enter (by decide) (by simp [Value.category]) (Nat.le_of_ble_eq_true rfl) ?_
  refine am_go cd_B_init hc_B_init 0 1 (pc' := 1) (L' := [some (.ref 13)]) (st' := [.ref 13]) rfl ?_
  refine am_objInit (am_at hc_B_init 1 rfl) (tw 23 rfl rfl) (tw 14 rfl rfl) (tw 15 rfl rfl) (Nat.le_of_ble_eq_true rfl) ?_
  refine am_go cd_B_init hc_B_init 2 2 (pc' := 7) (L' := [some (.ref 13)]) (st' := [.int 40, .ref 13]) rfl ?_
  refine sn_newC (bc := 21) (bs := 1234) 40 (am_at hc_B_init 4 rfl) (tw 53 rfl rfl) rfl (Nat.le_of_ble_eq_true rfl) (Nat.le_of_ble_eq_true rfl) rfl ?_
  have hz1 := hz.nd (Nat.le_of_ble_eq_true rfl)
  generalize am_nd d 14 (fun _ => 0) = d1 at hz1 ⊢
  show am_W _ K0 _ (e + 1) 21 1234 m_B_init 9 [some (.ref 13)] [.ref 14, .ref 13] (SHn L f0 un f36 f40) 15 d1 _
  refine am_putR 1 0 k_r1 (am_at hc_B_init 5 rfl) rfl (Nat.le_of_ble_eq_true rfl) rfl (Nat.le_of_ble_eq_true rfl) k_ok1 (tw 25 rfl rfl) rfl rfl rfl rfl rfl rfl ?_
  rw [SHn_13 0 14]
  refine am_go cd_B_init hc_B_init 6 2 (pc' := 14) (L' := [some (.ref 13)]) (st' := [.int 0, .ref 13]) rfl ?_
  refine am_putI 1 1 k_r1 (am_at hc_B_init 8 rfl) rfl (Nat.le_of_ble_eq_true rfl) rfl (by decide) k_ok1 (tw 26 rfl rfl) rfl rfl rfl rfl ?_
  have hz2 := hz1.u (a := 13) (k := 1) (Nat.le_of_ble_eq_true rfl)
  generalize am_u d1 13 1 0 = d2 at hz2 ⊢
  refine am_go cd_B_init hc_B_init 9 2 (pc' := 19) (L' := [some (.ref 13)]) (st' := [.int 0, .ref 13]) rfl ?_
  refine am_putI 1 2 k_r1 (am_at hc_B_init 11 rfl) rfl (Nat.le_of_ble_eq_true rfl) rfl (by decide) k_ok1 (tw 27 rfl rfl) rfl rfl rfl rfl ?_
  have hz3 := hz2.u (a := 13) (k := 2) (Nat.le_of_ble_eq_true rfl)
  generalize am_u d2 13 2 0 = d3 at hz3 ⊢
  refine am_go cd_B_init hc_B_init 12 2 (pc' := 24) (L' := [some (.ref 13)]) (st' := [.int 0, .ref 13]) rfl ?_
  refine am_putI 1 3 k_r1 (am_at hc_B_init 14 rfl) rfl (Nat.le_of_ble_eq_true rfl) rfl (by decide) k_ok1 (tw 28 rfl rfl) rfl rfl rfl rfl ?_
  have hz4 := hz3.u (a := 13) (k := 3) (Nat.le_of_ble_eq_true rfl)
  generalize am_u d3 13 3 0 = d4 at hz4 ⊢
  refine am_go cd_B_init hc_B_init 15 2 (pc' := 29) (L' := [some (.ref 13)]) (st' := [.int 0, .ref 13]) rfl ?_
  refine am_putI 1 4 k_r1 (am_at hc_B_init 17 rfl) rfl (Nat.le_of_ble_eq_true rfl) rfl (by decide) k_ok1 (tw 29 rfl rfl) rfl rfl rfl rfl ?_
  have hz5 := hz4.u (a := 13) (k := 4) (Nat.le_of_ble_eq_true rfl)
  generalize am_u d4 13 4 0 = d5 at hz5 ⊢
  refine am_go cd_B_init hc_B_init 18 2 (pc' := 35) (L' := [some (.ref 13)]) (st' := [.int 64, .ref 13]) rfl ?_
  refine sn_newI (bc := 20) (bs := 1170) 64 (am_at hc_B_init 20 rfl) (tw 52 rfl rfl) rfl (Nat.le_of_ble_eq_true rfl) (Nat.le_of_ble_eq_true rfl) rfl ?_
  have hz6 := hz5.nd (Nat.le_of_ble_eq_true rfl)
  generalize am_nd d5 15 (fun _ => 0) = d6 at hz6 ⊢
  show am_W _ K0 _ (e + 1) 20 1170 m_B_init 37 [some (.ref 13)] [.ref 15, .ref 13] (SHn L f0 (us un 0 14) f36 f40) 16 d6 _
  refine am_putR 1 5 k_r1 (am_at hc_B_init 21 rfl) rfl (Nat.le_of_ble_eq_true rfl) rfl (Nat.le_of_ble_eq_true rfl) k_ok1 (tw 31 rfl rfl) rfl rfl rfl rfl rfl rfl ?_
  rw [SHn_13 5 15]
  refine am_go cd_B_init hc_B_init 22 3 (pc' := 45) (L' := [some (.ref 13)]) (st' := [.int 64, .int 9, .ref 13]) rfl ?_
  refine sn_multi (bc := 10) (bs := 585) 9 64 (am_at hc_B_init 25 rfl) (tw 24 rfl rfl) (tw 52 rfl rfl) (tn 17 rfl rfl) rfl rfl (Nat.le_of_ble_eq_true rfl) (Nat.le_of_ble_eq_true rfl) (Nat.le_of_ble_eq_true rfl) rfl (SHn_c _ _ _ _ _) ?_
  have hz7 := hz6.md (N := 9) (by decide) (Nat.le_of_ble_eq_true rfl)
  generalize am_md d6 16 9 = d7 at hz7 ⊢
  show am_W _ K0 _ (e + 1) 10 585 m_B_init 49 [some (.ref 13)] [.ref 16, .ref 13] (SHn L f0 (us (us un 0 14) 5 15) f36 f40) 26 d7 _
  refine am_putR 1 6 k_r1 (am_at hc_B_init 26 rfl) rfl (Nat.le_of_ble_eq_true rfl) rfl (Nat.le_of_ble_eq_true rfl) k_ok1 (tw 33 rfl rfl) rfl rfl rfl rfl rfl rfl ?_
  rw [SHn_13 6 16]
  refine am_go cd_B_init hc_B_init 27 3 (pc' := 57) (L' := [some (.ref 13)]) (st' := [.int 64, .int 9, .ref 13]) rfl ?_
  refine sn_multi (bc := 0) (bs := 0) 9 64 (am_at hc_B_init 30 rfl) (tw 24 rfl rfl) (tw 52 rfl rfl) (tn 17 rfl rfl) rfl rfl (Nat.le_of_ble_eq_true rfl) (Nat.le_of_ble_eq_true rfl) (Nat.le_of_ble_eq_true rfl) rfl (SHn_s _ _ _ _ _) ?_
  have hz8 := hz7.md (N := 9) (by decide) (Nat.le_of_ble_eq_true rfl)
  generalize am_md d7 26 9 = d8 at hz8 ⊢
  show am_W _ K0 _ (e + 1) 0 0 m_B_init 61 [some (.ref 13)] [.ref 26, .ref 13] (SHn L f0 (us (us (us un 0 14) 5 15) 6 16) f36 f40) 36 d8 _
  refine am_putR 1 7 k_r1 (am_at hc_B_init 31 rfl) rfl (Nat.le_of_ble_eq_true rfl) rfl (Nat.le_of_ble_eq_true rfl) k_ok1 (tw 34 rfl rfl) rfl rfl rfl rfl rfl rfl ?_
  rw [SHn_13 7 26]
  exact am_vret (am_at hc_B_init 32 rfl) rfl ⟨rfl, rfl, rfl, hz8⟩
set_option maxRecDepth 100000 in
set_option maxHeartbeats 4000000 in
theorem c_S_init {l : Launch} {x : am_X} {e L : Nat} {d0 d : am_D} {f0 f13 f40 : Nat → Option Nat} (hz : Zd 37 d0 d) (hrk : ∀ j, j < 6 → d0 1001 j = zI (rks j)) : am_Met l K0 x (e + 1) 3 192 m_S_init [.ref 36] (SHn L f0 f13 un f40) 37 d (fun r S n d' => r = none ∧ S = SHn L f0 f13 (us (us (us un 0 37) 1 38) 2 39) f40 ∧ n = 40 ∧ Zd 40 d0 d' ∧ ∀ s, s < 64 → d' 37 s = zI (rk s)) := by
  refine am_enter (by decide) (by simp [Value.category]) (Nat.le_of_ble_eq_true rfl) ?_
  refine am_go cd_S_init hc_S_init 0 1 (pc' := 1) (L' := [some (.ref 36), none]) (st' := [.ref 36]) rfl ?_
  refine am_objInit (am_at hc_S_init 1 rfl) (tw 59 rfl rfl) (tw 14 rfl rfl) (tw 15 rfl rfl) (Nat.le_of_ble_eq_true rfl) ?_
  refine am_go cd_S_init hc_S_init 2 2 (pc' := 7) (L' := [some (.ref 36), none]) (st' := [.int 64, .ref 36]) rfl ?_
  refine sn_newI (bc := 2) (bs := 128) 64 (am_at hc_S_init 4 rfl) (tw 52 rfl rfl) rfl (Nat.le_of_ble_eq_true rfl) (Nat.le_of_ble_eq_true rfl) rfl ?_
  have hz1 := hz.nd (Nat.le_of_ble_eq_true rfl)
  generalize am_nd d 37 (fun _ => 0) = d1 at hz1 ⊢
  show am_W _ K0 _ (e + 1) 2 128 m_S_init 9 [some (.ref 36), none] [.ref 37, .ref 36] (SHn L f0 f13 un f40) 38 d1 _
  refine am_putR 2 0 k_r2 (am_at hc_S_init 5 rfl) rfl (Nat.le_of_ble_eq_true rfl) rfl (Nat.le_of_ble_eq_true rfl) k_ok2 (tw 65 rfl rfl) rfl rfl rfl rfl rfl rfl ?_
  rw [SHn_36 0 37]
  refine am_go cd_S_init hc_S_init 6 2 (pc' := 15) (L' := [some (.ref 36), none]) (st' := [.int 64, .ref 36]) rfl ?_
  refine sn_newI (bc := 1) (bs := 64) 64 (am_at hc_S_init 8 rfl) (tw 52 rfl rfl) rfl (Nat.le_of_ble_eq_true rfl) (Nat.le_of_ble_eq_true rfl) rfl ?_
  have hz2 := hz1.nd (Nat.le_of_ble_eq_true rfl)
  generalize am_nd d1 38 (fun _ => 0) = d2 at hz2 ⊢
  show am_W _ K0 _ (e + 1) 1 64 m_S_init 17 [some (.ref 36), none] [.ref 38, .ref 36] (SHn L f0 f13 (us un 0 37) f40) 39 d2 _
  refine am_putR 2 1 k_r2 (am_at hc_S_init 9 rfl) rfl (Nat.le_of_ble_eq_true rfl) rfl (Nat.le_of_ble_eq_true rfl) k_ok2 (tw 66 rfl rfl) rfl rfl rfl rfl rfl rfl ?_
  rw [SHn_36 1 38]
  refine am_go cd_S_init hc_S_init 10 2 (pc' := 23) (L' := [some (.ref 36), none]) (st' := [.int 64, .ref 36]) rfl ?_
  refine sn_newI (bc := 0) (bs := 0) 64 (am_at hc_S_init 12 rfl) (tw 52 rfl rfl) rfl (Nat.le_of_ble_eq_true rfl) (Nat.le_of_ble_eq_true rfl) rfl ?_
  have hz3 := hz2.nd (Nat.le_of_ble_eq_true rfl)
  generalize am_nd d2 39 (fun _ => 0) = d3 at hz3 ⊢
  show am_W _ K0 _ (e + 1) 0 0 m_S_init 25 [some (.ref 36), none] [.ref 39, .ref 36] (SHn L f0 f13 (us (us un 0 37) 1 38) f40) 40 d3 _
  refine am_putR 2 2 k_r2 (am_at hc_S_init 13 rfl) rfl (Nat.le_of_ble_eq_true rfl) rfl (Nat.le_of_ble_eq_true rfl) k_ok2 (tw 67 rfl rfl) rfl rfl rfl rfl rfl rfl ?_
  rw [SHn_36 2 39]
  refine am_go cd_S_init hc_S_init 14 2 (pc' := 30) (L' := [some (.ref 36), some (.int 0)]) (st' := []) rfl ?_
  have loop : ∀ k s, s + k = 64 → am_W l K0 x (e + 1) 0 0 m_S_init 30 [some (.ref 36), some (.int (nI s))] [] (SHn L f0 f13 (us (us (us un 0 37) 1 38) 2 39) f40) 40 (am_tb d3 37 s (fun s => zI (rk s))) (fun r S n d' => r = none ∧ S = SHn L f0 f13 (us (us (us un 0 37) 1 38) 2 39) f40 ∧ n = 40 ∧ Zd 40 d0 d' ∧ ∀ s, s < 64 → d' 37 s = zI (rk s)) := by
    intro k
    induction k with
    | zero =>
      intro s hs
      refine am_go cd_S_init hc_S_init 16 2 (pc' := 33) (L' := [some (.ref 36), some (.int (nI s))]) (st' := [.int 64, .int (nI s)]) rfl ?_
      refine am_icmp_ge 55 (am_at hc_S_init 18 rfl) (by decide) (fun q1 => ?_) (fun q1 => absurd (nI_le (a := 64) (b := s) (by omega) (by omega)) q1)
      exact am_vret (am_at hc_S_init 28 rfl) rfl ⟨rfl, rfl, rfl, hz3.t37, fun j hj => am_tb_lt (by omega)⟩
    | succ k ih =>
      intro s hs
      refine am_go cd_S_init hc_S_init 16 2 (pc' := 33) (L' := [some (.ref 36), some (.int (nI s))]) (st' := [.int 64, .int (nI s)]) rfl ?_
      refine am_icmp_ge 55 (am_at hc_S_init 18 rfl) (by decide) (fun q1 => absurd q1 (nI_ge (a := s) (b := 64) (by omega) (by omega))) (fun q1 => ?_)
      refine am_go cd_S_init hc_S_init 19 1 (pc' := 37) (L' := [some (.ref 36), some (.int (nI s))]) (st' := [.ref 36]) rfl ?_
      refine am_getf 2 0 k_r2 (am_at hc_S_init 20 rfl) rfl (Nat.le_of_ble_eq_true rfl) rfl (by decide) k_ok2 (Or.inl (tw 65 rfl rfl)) rfl ?_
      refine am_go cd_S_init hc_S_init 21 1 (pc' := 41) (L' := [some (.ref 36), some (.int (nI s))]) (st' := [.int (nI s), .ref 37]) rfl ?_
      refine am_gets ("BundleAuction$Sharing", "ITEM_RANK", "[I", 1001) (am_at hc_S_init 22 rfl) List.mem_cons_self (tw 60 rfl rfl) ?_
      refine am_go cd_S_init hc_S_init 23 1 (pc' := 45) (L' := [some (.ref 36), some (.int (nI s))]) (st' := [.int (nI s), .ref 1001, .int (nI s), .ref 37]) rfl ?_
      have hf : ∀ j, j < 6 → am_tb d3 37 s (fun s => zI (rk s)) 1001 j = zI (rks j) := fun j hj => by rw [am_tb_ne (by decide), hz3.1 1001 (by decide)]; exact hrk j hj
      refine am_callS (st := [.int (nI s), .ref 37]) k_ok [.ref 1001, .int (nI s)] (am_at hc_S_init 24 rfl) g_S_sumOver (Or.inl (tw 62 rfl rfl)) (tw 63 rfl rfl) rfl rfl (Nat.le_of_ble_eq_true rfl) (c_S_sumOver 1001 s rks (by omega) rfl (Or.inr (by decide)) rfl hf) (Nat.le_refl _) (Nat.le_refl _) ?_
      rintro _ _ _ _ ⟨rfl, rfl, rfl, rfl⟩
      show am_W _ K0 _ (e + 1) 0 0 m_S_init 48 [some (.ref 36), some (.int (nI s))] [.int (zI (rk s)), .int (nI s), .ref 37] _ 40 _ _
      refine am_iastore (s) (am_at hc_S_init 25 rfl) rfl (Nat.le_of_ble_eq_true rfl) rfl (by show s < 64; omega) (Nat.le_of_ble_eq_true rfl) ?_
      rw [am_tb_s d3 37 s (fun s => zI (rk s))]
      refine am_go cd_S_init hc_S_init 26 2 (pc' := 30) (L' := [some (.ref 36), some (.int (nI s + 1))]) (st' := []) rfl ?_
      rw [nI_1]
      exact ih (s + 1) (by omega)
  have h0 := loop 64 0 rfl
  rw [am_tb_0] at h0
  exact h0
set_option maxRecDepth 100000 in
set_option maxHeartbeats 4000000 in
theorem c_A_init {l : Launch} {x : am_X} {e L : Nat} {d0 d : am_D} {f40 : Nat → Option Nat} (hz : Zd 1 d0 d) (hrk : ∀ j, j < 6 → d0 1001 j = zI (rks j)) : am_Met l K0 x (e + 2) 39 1834 m_A_init [.ref 0] (SHn L un un un f40) 1 d (fun r S n d' => r = none ∧ S = SHn L (us (us (us (us (us (us (us (us (us un 0 1) 1 2) 2 3) 3 4) 4 5) 5 6) 6 7) 7 13) 8 36) (us (us (us (us un 0 14) 5 15) 6 16) 7 26) (us (us (us un 0 37) 1 38) 2 39) f40 ∧ n = 40 ∧ Zd 40 d0 d' ∧ ∀ s, s < 64 → d' 37 s = zI (rk s)) := by
  refine am_enter (by decide) (by simp [Value.category]) (Nat.le_of_ble_eq_true rfl) ?_
  refine am_go cd_A_init hc_A_init 0 1 (pc' := 1) (L' := [some (.ref 0)]) (st' := [.ref 0]) rfl ?_
  refine am_objInit (am_at hc_A_init 1 rfl) (tw 13 rfl rfl) (tw 14 rfl rfl) (tw 15 rfl rfl) (Nat.le_of_ble_eq_true rfl) ?_
  refine am_go cd_A_init hc_A_init 2 2 (pc' := 6) (L' := [some (.ref 0)]) (st' := [.int 5, .ref 0]) rfl ?_
  refine sn_newI (bc := 38) (bs := 1829) 5 (am_at hc_A_init 4 rfl) (tw 52 rfl rfl) rfl (Nat.le_of_ble_eq_true rfl) (Nat.le_of_ble_eq_true rfl) rfl ?_
  have hz1 := hz.nd (Nat.le_of_ble_eq_true rfl)
  generalize am_nd d 1 (fun _ => 0) = d1 at hz1 ⊢
  show am_W _ K0 _ (e + 2) 38 1829 m_A_init 8 [some (.ref 0)] [.ref 1, .ref 0] (SHn L un un un f40) 2 d1 _
  refine am_putR 0 0 k_r0 (am_at hc_A_init 5 rfl) rfl (Nat.le_of_ble_eq_true rfl) rfl (Nat.le_of_ble_eq_true rfl) k_ok0 (tw 75 rfl rfl) rfl rfl rfl rfl rfl rfl ?_
  rw [SHn_0 0 1]
  refine am_go cd_A_init hc_A_init 6 2 (pc' := 13) (L' := [some (.ref 0)]) (st' := [.int 5, .ref 0]) rfl ?_
  refine sn_newI (bc := 37) (bs := 1824) 5 (am_at hc_A_init 8 rfl) (tw 52 rfl rfl) rfl (Nat.le_of_ble_eq_true rfl) (Nat.le_of_ble_eq_true rfl) rfl ?_
  have hz2 := hz1.nd (Nat.le_of_ble_eq_true rfl)
  generalize am_nd d1 2 (fun _ => 0) = d2 at hz2 ⊢
  show am_W _ K0 _ (e + 2) 37 1824 m_A_init 15 [some (.ref 0)] [.ref 2, .ref 0] (SHn L (us un 0 1) un un f40) 3 d2 _
  refine am_putR 0 1 k_r0 (am_at hc_A_init 9 rfl) rfl (Nat.le_of_ble_eq_true rfl) rfl (Nat.le_of_ble_eq_true rfl) k_ok0 (tw 76 rfl rfl) rfl rfl rfl rfl rfl rfl ?_
  rw [SHn_0 1 2]
  refine am_go cd_A_init hc_A_init 10 2 (pc' := 21) (L' := [some (.ref 0)]) (st' := [.int 6, .ref 0]) rfl ?_
  refine sn_newI (bc := 36) (bs := 1818) 6 (am_at hc_A_init 12 rfl) (tw 52 rfl rfl) rfl (Nat.le_of_ble_eq_true rfl) (Nat.le_of_ble_eq_true rfl) rfl ?_
  have hz3 := hz2.nd (Nat.le_of_ble_eq_true rfl)
  generalize am_nd d2 3 (fun _ => 0) = d3 at hz3 ⊢
  show am_W _ K0 _ (e + 2) 36 1818 m_A_init 23 [some (.ref 0)] [.ref 3, .ref 0] (SHn L (us (us un 0 1) 1 2) un un f40) 4 d3 _
  refine am_putR 0 2 k_r0 (am_at hc_A_init 13 rfl) rfl (Nat.le_of_ble_eq_true rfl) rfl (Nat.le_of_ble_eq_true rfl) k_ok0 (tw 77 rfl rfl) rfl rfl rfl rfl rfl rfl ?_
  rw [SHn_0 2 3]
  refine am_go cd_A_init hc_A_init 14 2 (pc' := 29) (L' := [some (.ref 0)]) (st' := [.int 6, .ref 0]) rfl ?_
  refine sn_newI (bc := 35) (bs := 1812) 6 (am_at hc_A_init 16 rfl) (tw 52 rfl rfl) rfl (Nat.le_of_ble_eq_true rfl) (Nat.le_of_ble_eq_true rfl) rfl ?_
  have hz4 := hz3.nd (Nat.le_of_ble_eq_true rfl)
  generalize am_nd d3 4 (fun _ => 0) = d4 at hz4 ⊢
  show am_W _ K0 _ (e + 2) 35 1812 m_A_init 31 [some (.ref 0)] [.ref 4, .ref 0] (SHn L (us (us (us un 0 1) 1 2) 2 3) un un f40) 5 d4 _
  refine am_putR 0 3 k_r0 (am_at hc_A_init 17 rfl) rfl (Nat.le_of_ble_eq_true rfl) rfl (Nat.le_of_ble_eq_true rfl) k_ok0 (tw 78 rfl rfl) rfl rfl rfl rfl rfl rfl ?_
  rw [SHn_0 3 4]
  refine am_go cd_A_init hc_A_init 18 2 (pc' := 36) (L' := [some (.ref 0)]) (st' := [.int 5, .ref 0]) rfl ?_
  refine sn_newI (bc := 34) (bs := 1807) 5 (am_at hc_A_init 20 rfl) (tw 52 rfl rfl) rfl (Nat.le_of_ble_eq_true rfl) (Nat.le_of_ble_eq_true rfl) rfl ?_
  have hz5 := hz4.nd (Nat.le_of_ble_eq_true rfl)
  generalize am_nd d4 5 (fun _ => 0) = d5 at hz5 ⊢
  show am_W _ K0 _ (e + 2) 34 1807 m_A_init 38 [some (.ref 0)] [.ref 5, .ref 0] (SHn L (us (us (us (us un 0 1) 1 2) 2 3) 3 4) un un f40) 6 d5 _
  refine am_putR 0 4 k_r0 (am_at hc_A_init 21 rfl) rfl (Nat.le_of_ble_eq_true rfl) rfl (Nat.le_of_ble_eq_true rfl) k_ok0 (tw 79 rfl rfl) rfl rfl rfl rfl rfl rfl ?_
  rw [SHn_0 4 5]
  refine am_go cd_A_init hc_A_init 22 2 (pc' := 43) (L' := [some (.ref 0)]) (st' := [.int 5, .ref 0]) rfl ?_
  refine sn_newI (bc := 33) (bs := 1802) 5 (am_at hc_A_init 24 rfl) (tw 52 rfl rfl) rfl (Nat.le_of_ble_eq_true rfl) (Nat.le_of_ble_eq_true rfl) rfl ?_
  have hz6 := hz5.nd (Nat.le_of_ble_eq_true rfl)
  generalize am_nd d5 6 (fun _ => 0) = d6 at hz6 ⊢
  show am_W _ K0 _ (e + 2) 33 1802 m_A_init 45 [some (.ref 0)] [.ref 6, .ref 0] (SHn L (us (us (us (us (us un 0 1) 1 2) 2 3) 3 4) 4 5) un un f40) 7 d6 _
  refine am_putR 0 5 k_r0 (am_at hc_A_init 25 rfl) rfl (Nat.le_of_ble_eq_true rfl) rfl (Nat.le_of_ble_eq_true rfl) k_ok0 (tw 80 rfl rfl) rfl rfl rfl rfl rfl rfl ?_
  rw [SHn_0 5 6]
  refine am_go cd_A_init hc_A_init 26 3 (pc' := 52) (L' := [some (.ref 0)]) (st' := [.int 64, .int 5, .ref 0]) rfl ?_
  refine sn_multi (bc := 27) (bs := 1477) 5 64 (am_at hc_A_init 29 rfl) (tw 16 rfl rfl) (tw 52 rfl rfl) (tn 17 rfl rfl) rfl rfl (Nat.le_of_ble_eq_true rfl) (Nat.le_of_ble_eq_true rfl) (Nat.le_of_ble_eq_true rfl) rfl (SHn_w _ _ _ _ _) ?_
  have hz7 := hz6.md (N := 5) (by decide) (Nat.le_of_ble_eq_true rfl)
  generalize am_md d6 7 5 = d7 at hz7 ⊢
  show am_W _ K0 _ (e + 2) 27 1477 m_A_init 56 [some (.ref 0)] [.ref 7, .ref 0] (SHn L (us (us (us (us (us (us un 0 1) 1 2) 2 3) 3 4) 4 5) 5 6) un un f40) 13 d7 _
  refine am_putR 0 6 k_r0 (am_at hc_A_init 30 rfl) rfl (Nat.le_of_ble_eq_true rfl) rfl (Nat.le_of_ble_eq_true rfl) k_ok0 (tw 81 rfl rfl) rfl rfl rfl rfl rfl rfl ?_
  rw [SHn_0 6 7]
  refine am_go cd_A_init hc_A_init 31 1 (pc' := 60) (L' := [some (.ref 0)]) (st' := [.ref 0]) rfl ?_
  refine sn_new (bc := 26) (bs := 1469) 1 k_r1 (am_at hc_A_init 32 rfl) rfl k_ok1 (tw 18 rfl rfl) (tw 19 rfl rfl) (tw 2 rfl rfl) (by decide +kernel) (Nat.le_of_ble_eq_true rfl) rfl ?_
  have hz8 := hz7.nd (Nat.le_of_ble_eq_true rfl)
  generalize am_nd d7 13 (fun _ => 0) = d8 at hz8 ⊢
  show am_W _ K0 _ (e + 2) 26 1469 m_A_init 63 [some (.ref 0)] [.ref 13, .ref 0] (SHn L (us (us (us (us (us (us (us un 0 1) 1 2) 2 3) 3 4) 4 5) 5 6) 6 7) un un f40) 14 d8 _
  refine am_go cd_A_init hc_A_init 33 1 (pc' := 64) (L' := [some (.ref 0)]) (st' := [.ref 13, .ref 13, .ref 0]) rfl ?_
  refine am_callI (st := [.ref 13, .ref 0]) k_ok [] (am_at hc_A_init 34 rfl) g_B_init (Or.inl (tw 20 rfl rfl)) (tw 21 rfl rfl) rfl rfl rfl rfl (Nat.le_of_ble_eq_true rfl) (c_B_init hz8) (Nat.le_of_ble_eq_true rfl) (Nat.le_of_ble_eq_true rfl) ?_
  rintro _ _ _ db ⟨rfl, rfl, rfl, hzb⟩
  show am_W _ K0 _ (e + 2) 4 195 m_A_init 67 [some (.ref 0)] [.ref 13, .ref 0] (SHn L (us (us (us (us (us (us (us un 0 1) 1 2) 2 3) 3 4) 4 5) 5 6) 6 7) (us (us (us (us un 0 14) 5 15) 6 16) 7 26) un f40) 36 db _
  refine am_putR 0 7 k_r0 (am_at hc_A_init 35 rfl) rfl (Nat.le_of_ble_eq_true rfl) rfl (Nat.le_of_ble_eq_true rfl) k_ok0 (tw 82 rfl rfl) rfl rfl rfl rfl rfl rfl ?_
  rw [SHn_0 7 13]
  refine am_go cd_A_init hc_A_init 36 1 (pc' := 71) (L' := [some (.ref 0)]) (st' := [.ref 0]) rfl ?_
  refine sn_new (bc := 3) (bs := 192) 2 k_r2 (am_at hc_A_init 37 rfl) rfl k_ok2 (tw 54 rfl rfl) (tw 55 rfl rfl) (tw 3 rfl rfl) (by decide +kernel) (Nat.le_of_ble_eq_true rfl) rfl ?_
  have hz9 := hzb.nd (Nat.le_of_ble_eq_true rfl)
  generalize am_nd db 36 (fun _ => 0) = d9 at hz9 ⊢
  show am_W _ K0 _ (e + 2) 3 192 m_A_init 74 [some (.ref 0)] [.ref 36, .ref 0] (SHn L (us (us (us (us (us (us (us (us un 0 1) 1 2) 2 3) 3 4) 4 5) 5 6) 6 7) 7 13) (us (us (us (us un 0 14) 5 15) 6 16) 7 26) un f40) 37 d9 _
  refine am_go cd_A_init hc_A_init 38 1 (pc' := 75) (L' := [some (.ref 0)]) (st' := [.ref 36, .ref 36, .ref 0]) rfl ?_
  refine am_callI (st := [.ref 36, .ref 0]) k_ok [] (am_at hc_A_init 39 rfl) g_S_init (Or.inl (tw 56 rfl rfl)) (tw 57 rfl rfl) rfl rfl rfl rfl (Nat.le_of_ble_eq_true rfl) (c_S_init hz9 hrk) (Nat.le_of_ble_eq_true rfl) (Nat.le_of_ble_eq_true rfl) ?_
  rintro _ _ _ dc ⟨rfl, rfl, rfl, hzc, hr37⟩
  show am_W _ K0 _ (e + 2) 0 0 m_A_init 78 [some (.ref 0)] [.ref 36, .ref 0] (SHn L (us (us (us (us (us (us (us (us un 0 1) 1 2) 2 3) 3 4) 4 5) 5 6) 6 7) 7 13) (us (us (us (us un 0 14) 5 15) 6 16) 7 26) (us (us (us un 0 37) 1 38) 2 39) f40) 40 dc _
  refine am_putR 0 8 k_r0 (am_at hc_A_init 40 rfl) rfl (Nat.le_of_ble_eq_true rfl) rfl (Nat.le_of_ble_eq_true rfl) k_ok0 (tw 83 rfl rfl) rfl rfl rfl rfl rfl rfl ?_
  rw [SHn_0 8 36]
  have g37 : ∀ (d' : am_D), d' 37 = dc 37 → ∀ s, s < 64 → d' 37 s = zI (rk s) := fun d' z s hs => by rw [z]; exact hr37 s hs
  refine am_go cd_A_init hc_A_init 41 2 (pc' := 83) (L' := [some (.ref 0)]) (st' := [.int 0, .ref 0]) rfl ?_
  refine am_putI 0 9 k_r0 (am_at hc_A_init 43 rfl) rfl (Nat.le_of_ble_eq_true rfl) rfl (by decide) k_ok0 (tw 84 rfl rfl) rfl rfl rfl rfl ?_
  refine am_go cd_A_init hc_A_init 44 2 (pc' := 88) (L' := [some (.ref 0)]) (st' := [.int 0, .ref 0]) rfl ?_
  refine am_putI 0 10 k_r0 (am_at hc_A_init 46 rfl) rfl (Nat.le_of_ble_eq_true rfl) rfl (by decide) k_ok0 (tw 85 rfl rfl) rfl rfl rfl rfl ?_
  exact am_vret (am_at hc_A_init 47 rfl) rfl ⟨rfl, rfl, rfl, (hzc.u (by decide)).u (by decide), g37 _ (by rw [am_u_ne 37 (by decide), am_u_ne 37 (by decide)])⟩
set_option maxRecDepth 100000 in
set_option maxHeartbeats 4000000 in
theorem c_M_init {l : Launch} {x : am_X} {e L : Nat} {d0 d : am_D} {f0 f13 f36 : Nat → Option Nat} (hz : Zd 41 d0 d) : am_Met l K0 x (e + 1) 12 1333 m_M_init [.ref 40] (SHn L f0 f13 f36 un) 41 d (fun r S n d' => r = none ∧ S = SHn L f0 f13 f36 (us (us (us (us (us (us (us (us (us (us (us (us un 1 41) 2 42) 4 43) 6 44) 7 45) 8 46) 9 47) 11 48) 12 49) 16 50) 17 51) 18 52) ∧ n = 53 ∧ Zd 53 d0 d') := by
  refine am_enter (by decide) (by simp [Value.category]) (Nat.le_of_ble_eq_true rfl) ?_
  refine am_go cd_M_init hc_M_init 0 1 (pc' := 1) (L' := [some (.ref 40)]) (st' := [.ref 40]) rfl ?_
  refine am_objInit (am_at hc_M_init 1 rfl) (tw 305 rfl rfl) (tw 14 rfl rfl) (tw 15 rfl rfl) (Nat.le_of_ble_eq_true rfl) ?_
  refine am_go cd_M_init hc_M_init 2 2 (pc' := 6) (L' := [some (.ref 40)]) (st' := [.int 5, .ref 40]) rfl ?_
  refine sn_newI (bc := 11) (bs := 1328) 5 (am_at hc_M_init 4 rfl) (tw 52 rfl rfl) rfl (Nat.le_of_ble_eq_true rfl) (Nat.le_of_ble_eq_true rfl) rfl ?_
  have hz1 := hz.nd (Nat.le_of_ble_eq_true rfl)
  generalize am_nd d 41 (fun _ => 0) = d1 at hz1 ⊢
  show am_W _ K0 _ (e + 1) 11 1328 m_M_init 8 [some (.ref 40)] [.ref 41, .ref 40] (SHn L f0 f13 f36 un) 42 d1 _
  refine am_putS 3 1 k_r3 (am_at hc_M_init 5 rfl) rfl (Nat.le_of_ble_eq_true rfl) rfl (Nat.le_of_ble_eq_true rfl) k_ok3 (tw 307 rfl rfl) rfl rfl rfl rfl ?_
  rw [SHn_40 1 41]
  refine am_go cd_M_init hc_M_init 6 2 (pc' := 13) (L' := [some (.ref 40)]) (st' := [.int 5, .ref 40]) rfl ?_
  refine sn_newI (bc := 10) (bs := 1323) 5 (am_at hc_M_init 8 rfl) (tw 52 rfl rfl) rfl (Nat.le_of_ble_eq_true rfl) (Nat.le_of_ble_eq_true rfl) rfl ?_
  have hz2 := hz1.nd (Nat.le_of_ble_eq_true rfl)
  generalize am_nd d1 42 (fun _ => 0) = d2 at hz2 ⊢
  show am_W _ K0 _ (e + 1) 10 1323 m_M_init 15 [some (.ref 40)] [.ref 42, .ref 40] (SHn L f0 f13 f36 (us un 1 41)) 43 d2 _
  refine am_putS 3 2 k_r3 (am_at hc_M_init 9 rfl) rfl (Nat.le_of_ble_eq_true rfl) rfl (Nat.le_of_ble_eq_true rfl) k_ok3 (tw 308 rfl rfl) rfl rfl rfl rfl ?_
  rw [SHn_40 2 42]
  refine am_go cd_M_init hc_M_init 10 2 (pc' := 21) (L' := [some (.ref 40)]) (st' := [.int 6, .ref 40]) rfl ?_
  refine sn_newI (bc := 9) (bs := 1317) 6 (am_at hc_M_init 12 rfl) (tw 52 rfl rfl) rfl (Nat.le_of_ble_eq_true rfl) (Nat.le_of_ble_eq_true rfl) rfl ?_
  have hz3 := hz2.nd (Nat.le_of_ble_eq_true rfl)
  generalize am_nd d2 43 (fun _ => 0) = d3 at hz3 ⊢
  show am_W _ K0 _ (e + 1) 9 1317 m_M_init 23 [some (.ref 40)] [.ref 43, .ref 40] (SHn L f0 f13 f36 (us (us un 1 41) 2 42)) 44 d3 _
  refine am_putS 3 4 k_r3 (am_at hc_M_init 13 rfl) rfl (Nat.le_of_ble_eq_true rfl) rfl (Nat.le_of_ble_eq_true rfl) k_ok3 (tw 310 rfl rfl) rfl rfl rfl rfl ?_
  rw [SHn_40 4 43]
  refine am_go cd_M_init hc_M_init 14 2 (pc' := 29) (L' := [some (.ref 40)]) (st' := [.int 40, .ref 40]) rfl ?_
  refine sn_newI (bc := 8) (bs := 1277) 40 (am_at hc_M_init 16 rfl) (tw 52 rfl rfl) rfl (Nat.le_of_ble_eq_true rfl) (Nat.le_of_ble_eq_true rfl) rfl ?_
  have hz4 := hz3.nd (Nat.le_of_ble_eq_true rfl)
  generalize am_nd d3 44 (fun _ => 0) = d4 at hz4 ⊢
  show am_W _ K0 _ (e + 1) 8 1277 m_M_init 31 [some (.ref 40)] [.ref 44, .ref 40] (SHn L f0 f13 f36 (us (us (us un 1 41) 2 42) 4 43)) 45 d4 _
  refine am_putS 3 6 k_r3 (am_at hc_M_init 17 rfl) rfl (Nat.le_of_ble_eq_true rfl) rfl (Nat.le_of_ble_eq_true rfl) k_ok3 (tw 312 rfl rfl) rfl rfl rfl rfl ?_
  rw [SHn_40 6 44]
  refine am_go cd_M_init hc_M_init 18 2 (pc' := 38) (L' := [some (.ref 40)]) (st' := [.int 320, .ref 40]) rfl ?_
  refine sn_newI (bc := 7) (bs := 957) 320 (am_at hc_M_init 20 rfl) (tw 52 rfl rfl) rfl (Nat.le_of_ble_eq_true rfl) (Nat.le_of_ble_eq_true rfl) rfl ?_
  have hz5 := hz4.nd (Nat.le_of_ble_eq_true rfl)
  generalize am_nd d4 45 (fun _ => 0) = d5 at hz5 ⊢
  show am_W _ K0 _ (e + 1) 7 957 m_M_init 40 [some (.ref 40)] [.ref 45, .ref 40] (SHn L f0 f13 f36 (us (us (us (us un 1 41) 2 42) 4 43) 6 44)) 46 d5 _
  refine am_putS 3 7 k_r3 (am_at hc_M_init 21 rfl) rfl (Nat.le_of_ble_eq_true rfl) rfl (Nat.le_of_ble_eq_true rfl) k_ok3 (tw 313 rfl rfl) rfl rfl rfl rfl ?_
  rw [SHn_40 7 45]
  refine am_go cd_M_init hc_M_init 22 2 (pc' := 45) (L' := [some (.ref 40)]) (st' := [.int 5, .ref 40]) rfl ?_
  refine sn_newI (bc := 6) (bs := 952) 5 (am_at hc_M_init 24 rfl) (tw 52 rfl rfl) rfl (Nat.le_of_ble_eq_true rfl) (Nat.le_of_ble_eq_true rfl) rfl ?_
  have hz6 := hz5.nd (Nat.le_of_ble_eq_true rfl)
  generalize am_nd d5 46 (fun _ => 0) = d6 at hz6 ⊢
  show am_W _ K0 _ (e + 1) 6 952 m_M_init 47 [some (.ref 40)] [.ref 46, .ref 40] (SHn L f0 f13 f36 (us (us (us (us (us un 1 41) 2 42) 4 43) 6 44) 7 45)) 47 d6 _
  refine am_putS 3 8 k_r3 (am_at hc_M_init 25 rfl) rfl (Nat.le_of_ble_eq_true rfl) rfl (Nat.le_of_ble_eq_true rfl) k_ok3 (tw 314 rfl rfl) rfl rfl rfl rfl ?_
  rw [SHn_40 8 46]
  refine am_go cd_M_init hc_M_init 26 2 (pc' := 54) (L' := [some (.ref 40)]) (st' := [.int 832, .ref 40]) rfl ?_
  refine sn_newI (bc := 5) (bs := 120) 832 (am_at hc_M_init 28 rfl) (tw 52 rfl rfl) rfl (Nat.le_of_ble_eq_true rfl) (Nat.le_of_ble_eq_true rfl) rfl ?_
  have hz7 := hz6.nd (Nat.le_of_ble_eq_true rfl)
  generalize am_nd d6 47 (fun _ => 0) = d7 at hz7 ⊢
  show am_W _ K0 _ (e + 1) 5 120 m_M_init 56 [some (.ref 40)] [.ref 47, .ref 40] (SHn L f0 f13 f36 (us (us (us (us (us (us un 1 41) 2 42) 4 43) 6 44) 7 45) 8 46)) 48 d7 _
  refine am_putS 3 9 k_r3 (am_at hc_M_init 29 rfl) rfl (Nat.le_of_ble_eq_true rfl) rfl (Nat.le_of_ble_eq_true rfl) k_ok3 (tw 315 rfl rfl) rfl rfl rfl rfl ?_
  rw [SHn_40 9 47]
  refine am_go cd_M_init hc_M_init 30 2 (pc' := 62) (L' := [some (.ref 40)]) (st' := [.int 64, .ref 40]) rfl ?_
  refine sn_newI (bc := 4) (bs := 56) 64 (am_at hc_M_init 32 rfl) (tw 52 rfl rfl) rfl (Nat.le_of_ble_eq_true rfl) (Nat.le_of_ble_eq_true rfl) rfl ?_
  have hz8 := hz7.nd (Nat.le_of_ble_eq_true rfl)
  generalize am_nd d7 48 (fun _ => 0) = d8 at hz8 ⊢
  show am_W _ K0 _ (e + 1) 4 56 m_M_init 64 [some (.ref 40)] [.ref 48, .ref 40] (SHn L f0 f13 f36 (us (us (us (us (us (us (us un 1 41) 2 42) 4 43) 6 44) 7 45) 8 46) 9 47)) 49 d8 _
  refine am_putS 3 11 k_r3 (am_at hc_M_init 33 rfl) rfl (Nat.le_of_ble_eq_true rfl) rfl (Nat.le_of_ble_eq_true rfl) k_ok3 (tw 317 rfl rfl) rfl rfl rfl rfl ?_
  rw [SHn_40 11 48]
  refine am_go cd_M_init hc_M_init 34 2 (pc' := 70) (L' := [some (.ref 40)]) (st' := [.int 40, .ref 40]) rfl ?_
  refine sn_newI (bc := 3) (bs := 16) 40 (am_at hc_M_init 36 rfl) (tw 52 rfl rfl) rfl (Nat.le_of_ble_eq_true rfl) (Nat.le_of_ble_eq_true rfl) rfl ?_
  have hz9 := hz8.nd (Nat.le_of_ble_eq_true rfl)
  generalize am_nd d8 49 (fun _ => 0) = d9 at hz9 ⊢
  show am_W _ K0 _ (e + 1) 3 16 m_M_init 72 [some (.ref 40)] [.ref 49, .ref 40] (SHn L f0 f13 f36 (us (us (us (us (us (us (us (us un 1 41) 2 42) 4 43) 6 44) 7 45) 8 46) 9 47) 11 48)) 50 d9 _
  refine am_putS 3 12 k_r3 (am_at hc_M_init 37 rfl) rfl (Nat.le_of_ble_eq_true rfl) rfl (Nat.le_of_ble_eq_true rfl) k_ok3 (tw 318 rfl rfl) rfl rfl rfl rfl ?_
  rw [SHn_40 12 49]
  refine am_go cd_M_init hc_M_init 38 2 (pc' := 77) (L' := [some (.ref 40)]) (st' := [.int 5, .ref 40]) rfl ?_
  refine sn_newI (bc := 2) (bs := 11) 5 (am_at hc_M_init 40 rfl) (tw 52 rfl rfl) rfl (Nat.le_of_ble_eq_true rfl) (Nat.le_of_ble_eq_true rfl) rfl ?_
  have hz10 := hz9.nd (Nat.le_of_ble_eq_true rfl)
  generalize am_nd d9 50 (fun _ => 0) = d10 at hz10 ⊢
  show am_W _ K0 _ (e + 1) 2 11 m_M_init 79 [some (.ref 40)] [.ref 50, .ref 40] (SHn L f0 f13 f36 (us (us (us (us (us (us (us (us (us un 1 41) 2 42) 4 43) 6 44) 7 45) 8 46) 9 47) 11 48) 12 49)) 51 d10 _
  refine am_putS 3 16 k_r3 (am_at hc_M_init 41 rfl) rfl (Nat.le_of_ble_eq_true rfl) rfl (Nat.le_of_ble_eq_true rfl) k_ok3 (tw 322 rfl rfl) rfl rfl rfl rfl ?_
  rw [SHn_40 16 50]
  refine am_go cd_M_init hc_M_init 42 2 (pc' := 85) (L' := [some (.ref 40)]) (st' := [.int 6, .ref 40]) rfl ?_
  refine sn_newI (bc := 1) (bs := 5) 6 (am_at hc_M_init 44 rfl) (tw 52 rfl rfl) rfl (Nat.le_of_ble_eq_true rfl) (Nat.le_of_ble_eq_true rfl) rfl ?_
  have hz11 := hz10.nd (Nat.le_of_ble_eq_true rfl)
  generalize am_nd d10 51 (fun _ => 0) = d11 at hz11 ⊢
  show am_W _ K0 _ (e + 1) 1 5 m_M_init 87 [some (.ref 40)] [.ref 51, .ref 40] (SHn L f0 f13 f36 (us (us (us (us (us (us (us (us (us (us un 1 41) 2 42) 4 43) 6 44) 7 45) 8 46) 9 47) 11 48) 12 49) 16 50)) 52 d11 _
  refine am_putS 3 17 k_r3 (am_at hc_M_init 45 rfl) rfl (Nat.le_of_ble_eq_true rfl) rfl (Nat.le_of_ble_eq_true rfl) k_ok3 (tw 323 rfl rfl) rfl rfl rfl rfl ?_
  rw [SHn_40 17 51]
  refine am_go cd_M_init hc_M_init 46 2 (pc' := 92) (L' := [some (.ref 40)]) (st' := [.int 5, .ref 40]) rfl ?_
  refine sn_newI (bc := 0) (bs := 0) 5 (am_at hc_M_init 48 rfl) (tw 52 rfl rfl) rfl (Nat.le_of_ble_eq_true rfl) (Nat.le_of_ble_eq_true rfl) rfl ?_
  have hz12 := hz11.nd (Nat.le_of_ble_eq_true rfl)
  generalize am_nd d11 52 (fun _ => 0) = d12 at hz12 ⊢
  show am_W _ K0 _ (e + 1) 0 0 m_M_init 94 [some (.ref 40)] [.ref 52, .ref 40] (SHn L f0 f13 f36 (us (us (us (us (us (us (us (us (us (us (us un 1 41) 2 42) 4 43) 6 44) 7 45) 8 46) 9 47) 11 48) 12 49) 16 50) 17 51)) 53 d12 _
  refine am_putS 3 18 k_r3 (am_at hc_M_init 49 rfl) rfl (Nat.le_of_ble_eq_true rfl) rfl (Nat.le_of_ble_eq_true rfl) k_ok3 (tw 324 rfl rfl) rfl rfl rfl rfl ?_
  rw [SHn_40 18 52]
  exact am_vret (am_at hc_M_init 50 rfl) rfl ⟨rfl, rfl, rfl, hz12⟩
theorem SHn_full (L : Nat) : SHn L (us (us (us (us (us (us (us (us (us un 0 1) 1 2) 2 3) 3 4) 4 5) 5 6) 6 7) 7 13) 8 36) (us (us (us (us un 0 14) 5 15) 6 16) 7 26) (us (us (us un 0 37) 1 38) 2 39) (us (us (us (us (us (us (us (us (us (us (us (us un 1 41) 2 42) 4 43) 6 44) 7 45) 8 46) 9 47) 11 48) 12 49) 16 50) 17 51) 18 52) = SH L := by
  funext a
  unfold SHn
  by_cases z0 : a = 0
  · rw [if_pos z0, z0]
    show (3, 11, _) = (3, 11, _)
    congr 2; funext k
    rcases k with _ | _ | _ | _ | _ | _ | _ | _ | _ | k <;> first | rfl | simp [us, un]
  · rw [if_neg z0]
    by_cases z1 : a = 13
    · rw [if_pos z1, z1]
      show (4, 8, _) = (4, 8, _)
      congr 2; funext k
      rcases k with _ | _ | _ | _ | _ | _ | _ | _ | k <;> first | rfl | simp [us, un]
    · rw [if_neg z1]
      by_cases z2 : a = 36
      · rw [if_pos z2, z2]
        show (5, 3, _) = (5, 3, _)
        congr 2; funext k
        rcases k with _ | _ | _ | k <;> first | rfl | simp [us, un]
      · rw [if_neg z2]
        by_cases z3 : a = 40
        · rw [if_pos z3, z3]
          show (6, 19, _) = (6, 19, _)
          congr 2; funext k
          rcases k with _ | _ | _ | _ | _ | _ | _ | _ | _ | _ | _ | _ | _ | _ | _ | _ | _ | _ | _ | k <;> first | rfl | simp [us, un]
        · rw [if_neg z3]
end
