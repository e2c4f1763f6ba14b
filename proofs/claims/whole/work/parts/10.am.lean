/-! An abstract machine over the kit's walk: addresses are small numbers, a cell is a kind, a length, its references and its ints. -/
abbrev am_S : Type := Nat → Nat × Nat × (Nat → Option Nat)
abbrev am_D : Type := Nat → Nat → Int32
abbrev am_M : Type := MethodName × ByteArray × Nat × Option FieldType
abbrev am_Cfg : Type := List vw_C × (Nat → Nat → Bool) × List Cond × List Cond × List (String × String × String × Nat)
abbrev am_X : Type := (Nat → Nat) × Nat × va_G
abbrev am_cl (C : am_Cfg) : List vw_C := C.1
abbrev am_rf (C : am_Cfg) : Nat → Nat → Bool := C.2.1
abbrev am_ts (C : am_Cfg) : List Cond := C.2.2.1
abbrev am_ns (C : am_Cfg) : List Cond := C.2.2.2.1
abbrev am_zs (C : am_Cfg) : List (String × String × String × Nat) := C.2.2.2.2
abbrev am_ad (x : am_X) : Nat → Nat := x.1
abbrev am_sz (x : am_X) : Nat := x.2.1
abbrev am_dg (x : am_X) : va_G := x.2.2
abbrev am_A (x : am_X) : Nat → Prop := fun q => am_sz x ≤ q
def am_up (ad : Nat → Nat) (v : Value) : Value := match v with
  | .ref a => .ref (ad a)
  | w => w
def am_val (C : am_Cfg) (ad : Nat → Nat) (S : am_S) (d : am_D) (a j : Nat) : Value := if am_rf C ((S a).1 - 3) j = true then va_rf (((S a).2.2 j).map ad) else .int (d a j)
def am_own (C : am_Cfg) (x : am_X) (S : am_S) (d : am_D) (U : State) (H : Heap) (a : Nat) : Prop :=
  match (S a).1 with
  | 0 => ∃ cA, H[am_ad x a]? = some (arrV cA (S a).2.1 (fun j => .int (d a j))) ∧ ArrOfT U cA .int
  | 1 => ∃ cA, H[am_ad x a]? = some (arrV cA (S a).2.1 (fun j => .int (d a j))) ∧ ArrOfT U cA .char
  | 2 => ∃ cA, H[am_ad x a]? = some (arrV cA (S a).2.1 (fun j => va_rf (((S a).2.2 j).map (am_ad x)))) ∧ ArrOfT U cA (.array .int)
  | ci + 3 => ∃ r : vw_C, (am_cl C)[ci]? = some r ∧ (S a).2.1 = r.2.2 ∧ t_OB (am_ad x a) ((am_dg x).1 ci) r.2.2 ((am_dg x).2 ci) H (am_val C (am_ad x) S d a)
/-- an int array that was there before and is never written: its first L ints are known, its length is L's -/
def am_E (b L : Nat) (xs : Nat → Int32) (U : State) (H : Heap) : Prop := ∃ scr : Cell, H[b]? = some scr ∧ U.isArrayOf scr .int ∧ scr.vm ≠ .unknown ∧ L ≤ scr.slots.size ∧ scr.slots.size.toInt32 = Int32.ofNat L ∧ ∀ j : Nat, j < L → scr.slots[j]? = some (.int (xs j))
theorem am_E.kept {b L : Nat} {xs : Nat → Int32} {U : State} {H H1 : Heap} (h : am_E b L xs U H) (hq : H1[b]? = H[b]?) : am_E b L xs U H1 := by
  obtain ⟨scr, h1, h2⟩ := h
  exact ⟨scr, hq.trans h1, h2⟩
theorem am_E.moved {b L : Nat} {xs : Nat → Int32} {u U : State} {H : Heap} (hvm : u.vm.Alike U.vm) (h : am_E b L xs u H) : am_E b L xs U H := by
  obtain ⟨scr, h1, h2, h3⟩ := h
  exact ⟨scr, h1, State.isArrayOf_alike hvm h2, h3⟩
theorem am_E.ofX {b L : Nat} {xs : Nat → Int32} {U : State} {H : Heap} (h : va_X b L xs U H) : am_E b L xs U H := by
  obtain ⟨scr, h1, h2, h3, h4, h5⟩ := h
  exact ⟨scr, h1, h2, h3, Nat.le_of_eq h4.symm, by rw [h4], h5⟩
theorem am_E.ofT {b L : Nat} {f : Nat → Value} {xs : Nat → Int32} {A : Nat → Prop} {U : State} {H : Heap} (h : va_T .int b L f A U H) (hf : ∀ j, j < L → f j = .int (xs j)) : am_E b L xs U H := by
  obtain ⟨scr, h1, h2, h3, h4, h5, h6, -⟩ := h
  exact ⟨scr, h1, h2, h3, h4, h5, fun j hj => by rw [h6 j hj, hf j hj]⟩
def am_cell (C : am_Cfg) (x : am_X) (S : am_S) (d : am_D) (U : State) (H : Heap) (a : Nat) : Prop :=
  (1000 ≤ a → (S a).1 = 0 ∧ am_E (am_ad x a) (S a).2.1 (d a) U H) ∧ (a < 1000 → am_own C x S d U H a)
theorem am_own.kept {C : am_Cfg} {x : am_X} {S : am_S} {d : am_D} {U : State} {H H1 : Heap} {a : Nat} (h : am_own C x S d U H a) (hq : H1[am_ad x a]? = H[am_ad x a]?) : am_own C x S d U H1 a := by
  unfold am_own at h ⊢
  split at h
  · obtain ⟨cA, h1, h2⟩ := h; exact ⟨cA, hq.trans h1, h2⟩
  · obtain ⟨cA, h1, h2⟩ := h; exact ⟨cA, hq.trans h1, h2⟩
  · obtain ⟨cA, h1, h2⟩ := h; exact ⟨cA, hq.trans h1, h2⟩
  · obtain ⟨r, h1, h2, h3⟩ := h; exact ⟨r, h1, h2, h3.kept hq⟩
theorem am_own.moved {C : am_Cfg} {x : am_X} {S : am_S} {d : am_D} {u U : State} {H : Heap} {a : Nat} (hvm : u.vm.Alike U.vm) (h : am_own C x S d u H a) : am_own C x S d U H a := by
  unfold am_own at h ⊢
  split at h
  · obtain ⟨cA, h1, h2⟩ := h; exact ⟨cA, h1, arrOfT_moved hvm h2⟩
  · obtain ⟨cA, h1, h2⟩ := h; exact ⟨cA, h1, arrOfT_moved hvm h2⟩
  · obtain ⟨cA, h1, h2⟩ := h; exact ⟨cA, h1, arrOfT_moved hvm h2⟩
  · exact h
theorem am_own.same {C : am_Cfg} {x : am_X} {S S' : am_S} {d d' : am_D} {U : State} {H : Heap} {a : Nat} (h : am_own C x S d U H a) (hS : S' a = S a) (hd : d' a = d a) : am_own C x S' d' U H a := by
  have e : am_val C (am_ad x) S' d' a = am_val C (am_ad x) S d a := by
    funext j; unfold am_val; rw [hS, hd]
  unfold am_own at h ⊢
  rw [hS, hd, e]
  exact h
theorem am_cell.kept {C : am_Cfg} {x : am_X} {S : am_S} {d : am_D} {U : State} {H H1 : Heap} {a : Nat} (h : am_cell C x S d U H a) (hq : H1[am_ad x a]? = H[am_ad x a]?) : am_cell C x S d U H1 a :=
  ⟨fun h1 => ⟨(h.1 h1).1, (h.1 h1).2.kept hq⟩, fun h1 => (h.2 h1).kept hq⟩
theorem am_cell.moved {C : am_Cfg} {x : am_X} {S : am_S} {d : am_D} {u U : State} {H : Heap} {a : Nat} (hvm : u.vm.Alike U.vm) (h : am_cell C x S d u H a) : am_cell C x S d U H a :=
  ⟨fun h1 => ⟨(h.1 h1).1, (h.1 h1).2.moved hvm⟩, fun h1 => (h.2 h1).moved hvm⟩
theorem am_cell.same {C : am_Cfg} {x : am_X} {S S' : am_S} {d d' : am_D} {U : State} {H : Heap} {a : Nat} (h : am_cell C x S d U H a) (hS : S' a = S a) (hd : d' a = d a) : am_cell C x S' d' U H a :=
  ⟨fun h1 => by rw [hS, hd]; exact h.1 h1, fun h1 => (h.2 h1).same hS hd⟩
/-- what stays of a state: the tables, the statics, where the addresses lie -/
def am_F (C : am_Cfg) (x : am_X) (U : State) : Prop := va_K (am_dg x) (am_cl C) [] U ∧ (∀ w ∈ am_ns C, va_Nw w U) ∧ (∀ z ∈ am_zs C, va_Z z.1 z.2.1 z.2.2.1 (.ref (am_ad x z.2.2.2)) (am_A x) U U.heap) ∧ am_sz x ≤ U.heap.size ∧ (∀ k, k < 1000 → am_ad x k = am_sz x + k) ∧ (∀ k, 1000 ≤ k → am_ad x k < am_sz x)
/-- the cells -/
def am_H (C : am_Cfg) (x : am_X) (S : am_S) (n : Nat) (d : am_D) (U : State) (H : Heap) : Prop := (∀ a, (a < n ∨ (1000 ≤ a ∧ a < 1002)) → am_cell C x S d U H a) ∧ H.size = am_sz x + n ∧ n ≤ 1000
theorem am_H.moved {C : am_Cfg} {x : am_X} {S : am_S} {n : Nat} {d : am_D} {u U : State} {H : Heap} (hvm : u.vm.Alike U.vm) (h : am_H C x S n d u H) : am_H C x S n d U H := ⟨fun a ha => (h.1 a ha).moved hvm, h.2⟩
def am_nest (w : Cond) : Prop := ∀ (s U : State), s.WarmedH U.vm → va_Nw w s → va_Nw w U
theorem am_nestF (a : String) (i : Nat) (b n d h : String) : am_nest (.fieldLinkNest a i b n d h) := fun _ _ hW hZ => va_Nw.warmF hW hZ
theorem am_nestM (a : String) (i : Nat) (x : MethodName) (h : String) : am_nest (.methodLinkNest a i x h) := fun _ _ hW hZ => va_Nw.warmM hW hZ
/-- what is asked of the tables, once -/
def am_ok (C : am_Cfg) : Prop := (∀ w ∈ am_ts C, (w.onTables && w.keeps) = true ∨ ∃ ty, w = .arrayClass ty) ∧ (∀ w ∈ am_ns C, am_nest w ∧ ∀ (u U : State), u.vm = U.vm → va_Nw w u → va_Nw w U)
theorem am_F.warm {C : am_Cfg} {x : am_X} {s U : State} {H : Heap} {locs : List Loc} (hok : am_ok C) (h : am_F C x s) (hU : U.heap = H) (hW : s.WarmedH U.vm) (hS : va_S (am_A x) s.heap H locs) : am_F C x U := by
  obtain ⟨h1, h2, h3, h4, h5, h6⟩ := h
  refine ⟨va_K.moved hW.alike h1, fun w hw => (hok.2 w hw).1 s U hW (h2 w hw), fun z hz => ?_, by rw [hU]; exact Nat.le_trans h4 hS.1, h5, h6⟩
  have := ((h3 z hz).moved hW.alike).kept (H1 := H) (fun q hq hA => hS.2.1 q hq hA)
  rw [hU]; exact this
def am_rm (dep mc ms : Nat) : Room := { frames := dep + 998, cells := mc, slots := ms, locals := 80 * dep }
abbrev am_ws (C : am_Cfg) (mi : am_M) : List Cond := .code mi.1 mi.2.1 mi.2.2.1 mi.2.2.2 :: am_ts C
def am_Qc (C : am_Cfg) (x : am_X) (Q : Option Value → am_S → Nat → am_D → Prop) : Array Value → State → Outcome → State → Prop := fun _ st oc t =>
  ∃ (r : Option Value) (S : am_S) (n : Nat) (d : am_D), oc = .returned (r.map (am_up (am_ad x))) ∧ Q r S n d ∧ am_H C x S n d t t.heap ∧ va_F (am_A x) st t
/-- a contract: method mi at the arguments as, from the cells S, n, d -/
def am_Met (l : Launch) (C : am_Cfg) (x : am_X) (dep mc ms : Nat) (mi : am_M) (as : List Value) (S : am_S) (n : Nat) (d : am_D) (Q : Option Value → am_S → Nat → am_D → Prop) : Prop :=
  Met l mi.1 (am_ws C mi) (am_rm dep mc ms) (va_Pc (as.map (am_up (am_ad x))) (fun U => am_F C x U ∧ am_H C x S n d U U.heap)) (am_Qc C x Q) mc ms (am_A x)
def am_L (ad : Nat → Nat) (nL : Nat) (L : List (Option Value)) (ls : Array Slot) : Prop := ls.size = nL ∧ lv_wf ls ∧ ∀ (i : Nat) (v : Value), L[i]? = some (some v) → ls[i]? = some (.val (am_up ad v)) ∧ v.category = 1
def am_C (C : am_Cfg) (x : am_X) (bc bs : Nat) (mi : am_M) (L : List (Option Value)) (S : am_S) (n : Nat) (d : am_D) (p : Program) (s : State) (m : MethodId) (args : Array Value) (meth : Method) (c : Code) (H : Heap) (locs : List Loc) (cells slots mc ms : Nat) (ls : Array Slot) : Prop :=
  (p.tables.exec = Jvm.exec ∧ c.code = mi.2.1 ∧ c.maxLocals = mi.2.2.1 ∧ meth.sig.returnType = mi.2.2.2 ∧ meth.locks = false ∧ (mi.1.name = "<init>" → meth.name = "<init>") ∧ s.vm.findClass mi.1.cls = some m.cls ∧ (∀ w ∈ am_ts C, w.before args s = true) ∧ am_F C x s) ∧
  (am_H C x S n d s H ∧ va_S (am_A x) s.heap H locs ∧ cells + bc ≤ mc ∧ slots + bs ≤ ms ∧ am_L (am_ad x) mi.2.2.1 L ls)
/-- the walk: the frame of mi at pc, with locals L, stack st and the cells S, n, d, comes to an end with Q; bc cells of bs slots may still be made -/
def am_W (l : Launch) (C : am_Cfg) (x : am_X) (dep bc bs : Nat) (mi : am_M) (pc : Nat) (L : List (Option Value)) (st : List Value) (S : am_S) (n : Nat) (d : am_D) (Q : Option Value → am_S → Nat → am_D → Prop) : Prop :=
  ∀ (p : Program) (e : Env) (s : State) (m : MethodId) (args : Array Value) (below : List Frame) (meth : Method) (c : Code) (H : Heap) (locs : List Loc) (cells slots mc ms : Nat) (ls : Array Slot), am_C C x bc bs mi L S n d p s m args meth c H locs cells slots mc ms ls →
    W p l e (am_rm dep mc ms) s m args below meth c H locs cells slots (MQ below (am_Qc C x Q) args s mc ms (am_A x)) (F0 m pc ls (st.map (am_up (am_ad x))))
theorem am_up_cat (ad : Nat → Nat) (v : Value) : (am_up ad v).category = v.category := by cases v <;> rfl
theorem am_lg (vs : List Value) (h : ∀ v ∈ vs, v.category = 1) : lg_sl vs = vs.map Slot.val := by
  induction vs with
  | nil => rfl
  | cons v vs ih =>
    have h1 := h v List.mem_cons_self
    have h2 := ih (fun w hw => h w (List.mem_cons_of_mem _ hw))
    unfold lg_sl at h2 ⊢
    rw [List.flatMap_cons, h2, if_neg (by omega)]
    rfl
theorem am_args (vs : List Value) : ∀ (k i : Nat) (v : Value), (∀ v ∈ vs, v.category = 1) → vs[i]? = some v → (k + i, v) ∈ lv_args k vs := by
  induction vs with
  | nil => intro k i v _ h; simp at h
  | cons w vs ih =>
    intro k i v hc h
    have h1 := hc w List.mem_cons_self
    unfold lv_args
    rw [if_neg (by omega)]
    cases i with
    | zero => simp at h; subst h; simp
    | succ i =>
      have h2 := ih (k + 1) i v (fun w hw => hc w (List.mem_cons_of_mem _ hw)) (by simpa using h)
      rw [show k + (i + 1) = k + 1 + i by omega]
      exact List.mem_cons_of_mem _ h2
/-- a contract out of the walk from its first instruction -/
theorem am_enter {l : Launch} {C : am_Cfg} {x : am_X} {dep mc ms : Nat} {mi : am_M} {as : List Value} {S : am_S} {n : Nat} {d : am_D} {Q : Option Value → am_S → Nat → am_D → Prop}
    (hy : plainName mi.1.cls = true) (hc : ∀ v ∈ as, v.category = 1) (hn : as.length ≤ mi.2.2.1)
    (k : am_W l C x dep mc ms mi 0 (as.map some ++ List.replicate (mi.2.2.1 - as.length) none) [] S n d Q) : am_Met l C x dep mc ms mi as S n d Q := by
  unfold am_Met
  refine Met.ofW (cc := mi.2.1) (maxL := mi.2.2.1) (ret := mi.2.2.2) hy rfl ?_
  intro p e s m args below meth c s₁ B hml hv
  obtain ⟨rfl, hF, hH⟩ := hv
  have hts := atoms_spec (ws := am_ws C mi) B.pre
  have hc2 : ∀ v ∈ as.map (am_up (am_ad x)), v.category = 1 := by
    intro v hv
    obtain ⟨w, hw, rfl⟩ := List.mem_map.mp hv
    rw [am_up_cat]; exact hc w hw
  have hl := lv_entry (as.map (am_up (am_ad x))) (n := mi.2.2.1) (by rw [am_lg _ hc2]; simpa using hn)
  rw [lg_entry_eq]
  generalize (lg_sl (as.map (am_up (am_ad x))) ++ List.replicate (mi.2.2.1 - (lg_sl (as.map (am_up (am_ad x)))).length) Slot.unset).toArray = ls at hl ⊢
  refine k p e s m _ below meth c s.heap [] 0 0 mc ms ls ⟨⟨B.exec, B.bytes, hml, B.returns, B.notSynchronized, fun h => (name_of_methodNamed B.named B.method).1.trans h, findClass_of_methodNamed B.named, fun w hw => hts w (List.mem_cons_of_mem _ hw), hF⟩, hH, va_S.rf, by omega, by omega, hl.1, hl.2.1, fun i v hi => ?_⟩
  have hi2 : as[i]? = some v := by
    by_cases h : i < as.length
    · rw [List.getElem?_append_left (by simpa using h), List.getElem?_map] at hi
      cases ha : as[i]? with
      | none => rw [ha] at hi; cases hi
      | some w => rw [ha] at hi; simpa using hi
    · rw [List.getElem?_append_right (by simpa using h)] at hi
      have := List.mem_of_getElem? hi
      rw [List.mem_replicate] at this
      exact absurd this.2 (by simp)
  refine ⟨?_, hc v (List.mem_of_getElem? hi2)⟩
  have := am_args (as.map (am_up (am_ad x))) 0 i (am_up (am_ad x) v) hc2 (by rw [List.getElem?_map, hi2]; rfl)
  rw [Nat.zero_add] at this
  exact hl.2.2 _ this
