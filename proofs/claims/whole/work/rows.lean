section
/-! An abstract machine over the kit's walk: addresses are small numbers, a cell is a kind, a length, its references and its ints. -/
abbrev am_S : Type := Nat → Nat × Nat × (Nat → Option Nat)
abbrev am_D : Type := Nat → Nat → Int32
abbrev am_M : Type := MethodName × ByteArray × Nat × Option FieldType
abbrev am_Cfg : Type := List vw_C × (Nat → Nat → Bool) × (Nat → am_M) × List Cond × List Cond × List (String × String × String × Nat)
abbrev am_X : Type := (Nat → Nat) × Nat × va_G
abbrev am_cl (C : am_Cfg) : List vw_C := C.1
abbrev am_rf (C : am_Cfg) : Nat → Nat → Bool := C.2.1
abbrev am_mt (C : am_Cfg) : Nat → am_M := C.2.2.1
abbrev am_ts (C : am_Cfg) : List Cond := C.2.2.2.1
abbrev am_ns (C : am_Cfg) : List Cond := C.2.2.2.2.1
abbrev am_zs (C : am_Cfg) : List (String × String × String × Nat) := C.2.2.2.2.2
abbrev am_ad (x : am_X) : Nat → Nat := x.1
abbrev am_sz (x : am_X) : Nat := x.2.1
abbrev am_dg (x : am_X) : va_G := x.2.2
abbrev am_A (x : am_X) : Nat → Prop := fun q => am_sz x ≤ q
def am_up (ad : Nat → Nat) (v : Value) : Value := match v with
  | .ref a => .ref (ad a)
  | w => w
def am_val (C : am_Cfg) (ad : Nat → Nat) (S : am_S) (d : am_D) (a j : Nat) : Value := if am_rf C ((S a).1 - 3) j = true then va_rf (((S a).2.2 j).map ad) else .int (d a j)
def am_own (C : am_Cfg) (x : am_X) (S : am_S) (d : am_D) (U : State) (H : Heap) (a : Nat) : Prop :=
  match (S a).1 with
  | 0 => ∃ cA, H[am_ad x a]? = some (arrV cA (S a).2.1 (fun j => .int (d a j))) ∧ ArrOfT U cA .int
  | 1 => ∃ cA, H[am_ad x a]? = some (arrV cA (S a).2.1 (fun j => .int (d a j))) ∧ ArrOfT U cA .char
  | 2 => ∃ cA, H[am_ad x a]? = some (arrV cA (S a).2.1 (fun j => va_rf (((S a).2.2 j).map (am_ad x)))) ∧ ArrOfT U cA (.array .int)
  | ci + 3 => ∃ r : vw_C, (am_cl C)[ci]? = some r ∧ (S a).2.1 = r.2.2 ∧ t_OB (am_ad x a) ((am_dg x).1 ci) r.2.2 ((am_dg x).2 ci) H (am_val C (am_ad x) S d a)
def am_cell (C : am_Cfg) (x : am_X) (S : am_S) (d : am_D) (U : State) (H : Heap) (a : Nat) : Prop :=
  (1000 ≤ a → (S a).1 = 0 ∧ va_X (am_ad x a) (S a).2.1 (d a) U H) ∧ (a < 1000 → am_own C x S d U H a)
theorem am_own.kept {C : am_Cfg} {x : am_X} {S : am_S} {d : am_D} {U : State} {H H1 : Heap} {a : Nat} (h : am_own C x S d U H a) (hq : H1[am_ad x a]? = H[am_ad x a]?) : am_own C x S d U H1 a := by
  unfold am_own at h ⊢
  split at h
  · obtain ⟨cA, h1, h2⟩ := h; exact ⟨cA, hq.trans h1, h2⟩
  · obtain ⟨cA, h1, h2⟩ := h; exact ⟨cA, hq.trans h1, h2⟩
  · obtain ⟨cA, h1, h2⟩ := h; exact ⟨cA, hq.trans h1, h2⟩
  · obtain ⟨r, h1, h2, h3⟩ := h; exact ⟨r, h1, h2, h3.kept hq⟩
theorem am_own.moved {C : am_Cfg} {x : am_X} {S : am_S} {d : am_D} {u U : State} {H : Heap} {a : Nat} (hvm : u.vm.Alike U.vm) (h : am_own C x S d u H a) : am_own C x S d U H a := by
  unfold am_own at h ⊢
  split at h
  · obtain ⟨cA, h1, h2⟩ := h; exact ⟨cA, h1, arrOfT_moved hvm h2⟩
  · obtain ⟨cA, h1, h2⟩ := h; exact ⟨cA, h1, arrOfT_moved hvm h2⟩
  · obtain ⟨cA, h1, h2⟩ := h; exact ⟨cA, h1, arrOfT_moved hvm h2⟩
  · exact h
theorem am_own.same {C : am_Cfg} {x : am_X} {S S' : am_S} {d d' : am_D} {U : State} {H : Heap} {a : Nat} (h : am_own C x S d U H a) (hS : S' a = S a) (hd : d' a = d a) : am_own C x S' d' U H a := by
  have e : am_val C (am_ad x) S' d' a = am_val C (am_ad x) S d a := by
    funext j; unfold am_val; rw [hS, hd]
  unfold am_own at h ⊢
  rw [hS, hd, e]
  exact h
theorem am_cell.kept {C : am_Cfg} {x : am_X} {S : am_S} {d : am_D} {U : State} {H H1 : Heap} {a : Nat} (h : am_cell C x S d U H a) (hq : H1[am_ad x a]? = H[am_ad x a]?) : am_cell C x S d U H1 a :=
  ⟨fun h1 => ⟨(h.1 h1).1, (h.1 h1).2.kept hq⟩, fun h1 => (h.2 h1).kept hq⟩
theorem am_cell.moved {C : am_Cfg} {x : am_X} {S : am_S} {d : am_D} {u U : State} {H : Heap} {a : Nat} (hvm : u.vm.Alike U.vm) (h : am_cell C x S d u H a) : am_cell C x S d U H a :=
  ⟨fun h1 => ⟨(h.1 h1).1, (h.1 h1).2.moved hvm⟩, fun h1 => (h.2 h1).moved hvm⟩
theorem am_cell.same {C : am_Cfg} {x : am_X} {S S' : am_S} {d d' : am_D} {U : State} {H : Heap} {a : Nat} (h : am_cell C x S d U H a) (hS : S' a = S a) (hd : d' a = d a) : am_cell C x S' d' U H a :=
  ⟨fun h1 => by rw [hS, hd]; exact h.1 h1, fun h1 => (h.2 h1).same hS hd⟩
/-- what stays of a state: the tables, the statics, where the addresses lie -/
def am_F (C : am_Cfg) (x : am_X) (U : State) : Prop := va_K (am_dg x) (am_cl C) [] U ∧ (∀ w ∈ am_ns C, va_Nw w U) ∧ (∀ z ∈ am_zs C, va_Z z.1 z.2.1 z.2.2.1 (.ref (am_ad x z.2.2.2)) (am_A x) U U.heap) ∧ am_sz x ≤ U.heap.size ∧ (∀ k, k < 1000 → am_ad x k = am_sz x + k) ∧ (∀ k, 1000 ≤ k → am_ad x k < am_sz x)
/-- the cells -/
def am_H (C : am_Cfg) (x : am_X) (S : am_S) (n : Nat) (d : am_D) (U : State) (H : Heap) : Prop := (∀ a, (a < n ∨ (1000 ≤ a ∧ a < 1002)) → am_cell C x S d U H a) ∧ H.size = am_sz x + n ∧ n ≤ 1000
theorem am_H.moved {C : am_Cfg} {x : am_X} {S : am_S} {n : Nat} {d : am_D} {u U : State} {H : Heap} (hvm : u.vm.Alike U.vm) (h : am_H C x S n d u H) : am_H C x S n d U H := ⟨fun a ha => (h.1 a ha).moved hvm, h.2⟩
def am_nest (w : Cond) : Prop := ∀ (s U : State), s.WarmedH U.vm → va_Nw w s → va_Nw w U
theorem am_nestF (a : String) (i : Nat) (b n d h : String) : am_nest (.fieldLinkNest a i b n d h) := fun _ _ hW hZ => va_Nw.warmF hW hZ
theorem am_nestM (a : String) (i : Nat) (x : MethodName) (h : String) : am_nest (.methodLinkNest a i x h) := fun _ _ hW hZ => va_Nw.warmM hW hZ
/-- what is asked of the tables, once -/
def am_ok (C : am_Cfg) : Prop := (∀ w ∈ am_ts C, (w.onTables && w.keeps) = true ∨ ∃ ty, w = .arrayClass ty) ∧ (∀ w ∈ am_ns C, am_nest w ∧ w.onTables = true)
theorem am_F.warm {C : am_Cfg} {x : am_X} {s U : State} {H : Heap} {locs : List Loc} (hok : am_ok C) (h : am_F C x s) (hU : U.heap = H) (hW : s.WarmedH U.vm) (hS : va_S (am_A x) s.heap H locs) : am_F C x U := by
  obtain ⟨h1, h2, h3, h4, h5, h6⟩ := h
  refine ⟨va_K.moved hW.alike h1, fun w hw => (hok.2 w hw).1 s U hW (h2 w hw), fun z hz => ?_, by rw [hU]; exact Nat.le_trans h4 hS.1, h5, h6⟩
  have := ((h3 z hz).moved hW.alike).kept (H1 := H) (fun q hq hA => hS.2.1 q hq hA)
  rw [hU]; exact this
def am_rm (dep mc ms : Nat) : Room := { frames := dep, cells := mc, slots := ms, locals := 80 * dep }
abbrev am_ws (C : am_Cfg) (mi : Nat) : List Cond := .code (am_mt C mi).1 (am_mt C mi).2.1 (am_mt C mi).2.2.1 (am_mt C mi).2.2.2 :: am_ts C
def am_Qc (C : am_Cfg) (x : am_X) (Q : Option Value → am_S → Nat → am_D → Prop) : Array Value → State → Outcome → State → Prop := fun _ st oc t =>
  ∃ (r : Option Value) (S : am_S) (n : Nat) (d : am_D), oc = .returned (r.map (am_up (am_ad x))) ∧ Q r S n d ∧ am_H C x S n d t t.heap ∧ va_F (am_A x) st t
/-- a contract: method mi at the arguments as, from the cells S, n, d -/
def am_Met (l : Launch) (C : am_Cfg) (x : am_X) (dep mc ms mi : Nat) (as : List Value) (S : am_S) (n : Nat) (d : am_D) (Q : Option Value → am_S → Nat → am_D → Prop) : Prop :=
  Met l (am_mt C mi).1 (am_ws C mi) (am_rm dep mc ms) (va_Pc (as.map (am_up (am_ad x))) (fun U => am_F C x U ∧ am_H C x S n d U U.heap)) (am_Qc C x Q) mc ms (am_A x)
def am_L (ad : Nat → Nat) (nL : Nat) (L : List (Option Value)) (ls : Array Slot) : Prop := ls.size = nL ∧ lv_wf ls ∧ ∀ (i : Nat) (v : Value), L[i]? = some (some v) → ls[i]? = some (.val (am_up ad v)) ∧ v.category = 1
def am_C (C : am_Cfg) (x : am_X) (bc bs mi : Nat) (L : List (Option Value)) (S : am_S) (n : Nat) (d : am_D) (p : Program) (s : State) (m : MethodId) (args : Array Value) (meth : Method) (c : Code) (H : Heap) (locs : List Loc) (cells slots mc ms : Nat) (ls : Array Slot) : Prop :=
  (p.tables.exec = Jvm.exec ∧ c.code = (am_mt C mi).2.1 ∧ c.maxLocals = (am_mt C mi).2.2.1 ∧ meth.sig.returnType = (am_mt C mi).2.2.2 ∧ meth.locks = false ∧ meth.name = (am_mt C mi).1.name ∧ s.vm.findClass (am_mt C mi).1.cls = some m.cls ∧ (∀ w ∈ am_ts C, w.before args s = true) ∧ am_F C x s) ∧
  (am_H C x S n d s H ∧ va_S (am_A x) s.heap H locs ∧ cells + bc ≤ mc ∧ slots + bs ≤ ms ∧ am_L (am_ad x) (am_mt C mi).2.2.1 L ls)
/-- the walk: the frame of mi at pc, with locals L, stack st and the cells S, n, d, comes to an end with Q; bc cells of bs slots may still be made -/
def am_W (l : Launch) (C : am_Cfg) (x : am_X) (dep bc bs mi pc : Nat) (L : List (Option Value)) (st : List Value) (S : am_S) (n : Nat) (d : am_D) (Q : Option Value → am_S → Nat → am_D → Prop) : Prop :=
  ∀ (p : Program) (e : Env) (s : State) (m : MethodId) (args : Array Value) (below : List Frame) (meth : Method) (c : Code) (H : Heap) (locs : List Loc) (cells slots mc ms : Nat) (ls : Array Slot), am_C C x bc bs mi L S n d p s m args meth c H locs cells slots mc ms ls →
    W p l e (am_rm dep mc ms) s m args below meth c H locs cells slots (MQ below (am_Qc C x Q) args s mc ms (am_A x)) (F0 m pc ls (st.map (am_up (am_ad x))))
theorem am_up_cat (ad : Nat → Nat) (v : Value) : (am_up ad v).category = v.category := by cases v <;> rfl
theorem am_lg (vs : List Value) (h : ∀ v ∈ vs, v.category = 1) : lg_sl vs = vs.map Slot.val := by
  induction vs with
  | nil => rfl
  | cons v vs ih =>
    have h1 := h v List.mem_cons_self
    have h2 := ih (fun w hw => h w (List.mem_cons_of_mem _ hw))
    unfold lg_sl at h2 ⊢
    rw [List.flatMap_cons, h2, if_neg (by omega)]
    rfl
theorem am_args (vs : List Value) : ∀ (k i : Nat) (v : Value), (∀ v ∈ vs, v.category = 1) → vs[i]? = some v → (k + i, v) ∈ lv_args k vs := by
  induction vs with
  | nil => intro k i v _ h; simp at h
  | cons w vs ih =>
    intro k i v hc h
    have h1 := hc w List.mem_cons_self
    unfold lv_args
    rw [if_neg (by omega)]
    cases i with
    | zero => simp at h; subst h; simp
    | succ i =>
      have h2 := ih (k + 1) i v (fun w hw => hc w (List.mem_cons_of_mem _ hw)) (by simpa using h)
      rw [show k + (i + 1) = k + 1 + i by omega]
      exact List.mem_cons_of_mem _ h2
/-- a contract out of the walk from its first instruction -/
theorem am_enter {l : Launch} {C : am_Cfg} {x : am_X} {dep mc ms mi : Nat} {as : List Value} {S : am_S} {n : Nat} {d : am_D} {Q : Option Value → am_S → Nat → am_D → Prop}
    (hy : plainName (am_mt C mi).1.cls = true) (hc : ∀ v ∈ as, v.category = 1) (hn : as.length ≤ (am_mt C mi).2.2.1)
    (k : am_W l C x dep mc ms mi 0 (as.map some ++ List.replicate ((am_mt C mi).2.2.1 - as.length) none) [] S n d Q) : am_Met l C x dep mc ms mi as S n d Q := by
  unfold am_Met
  refine Met.ofW (cc := (am_mt C mi).2.1) (maxL := (am_mt C mi).2.2.1) (ret := (am_mt C mi).2.2.2) hy rfl ?_
  intro p e s m args below meth c s₁ B hml hv
  obtain ⟨rfl, hF, hH⟩ := hv
  have hts := atoms_spec (ws := am_ws C mi) B.pre
  have hc2 : ∀ v ∈ as.map (am_up (am_ad x)), v.category = 1 := by
    intro v hv
    obtain ⟨w, hw, rfl⟩ := List.mem_map.mp hv
    rw [am_up_cat]; exact hc w hw
  have hl := lv_entry (as.map (am_up (am_ad x))) (n := (am_mt C mi).2.2.1) (by rw [am_lg _ hc2]; simpa using hn)
  rw [lg_entry_eq]
  generalize (lg_sl (as.map (am_up (am_ad x))) ++ List.replicate ((am_mt C mi).2.2.1 - (lg_sl (as.map (am_up (am_ad x)))).length) Slot.unset).toArray = ls at hl ⊢
  refine k p e s m _ below meth c s.heap [] 0 0 mc ms ls ⟨⟨B.exec, B.bytes, hml, B.returns, B.notSynchronized, (name_of_methodNamed B.named B.method).1, findClass_of_methodNamed B.named, fun w hw => hts w (List.mem_cons_of_mem _ hw), hF⟩, hH, va_S.rf, by omega, by omega, hl.1, hl.2.1, fun i v hi => ?_⟩
  have hi2 : as[i]? = some v := by
    by_cases h : i < as.length
    · rw [List.getElem?_append_left (by simpa using h), List.getElem?_map] at hi
      cases ha : as[i]? with
      | none => rw [ha] at hi; cases hi
      | some w => rw [ha] at hi; simpa using hi
    · rw [List.getElem?_append_right (by simpa using h)] at hi
      have := List.mem_of_getElem? hi
      rw [List.mem_replicate] at this
      exact absurd this.2 (by simp)
  refine ⟨?_, hc v (List.mem_of_getElem? hi2)⟩
  have := am_args (as.map (am_up (am_ad x))) 0 i (am_up (am_ad x) v) hc2 (by rw [List.getElem?_map, hi2]; rfl)
  rw [Nat.zero_add] at this
  exact hl.2.2 _ this
end
section
def am_pr (ad : Nat → Nat) (L : List (Option Value)) : List (Nat × Value) := (List.range L.length).filterMap fun i => (L[i]?.join).map fun v => (i, am_up ad v)
theorem am_pr_mem {ad : Nat → Nat} {L : List (Option Value)} {i : Nat} {v : Value} (h : L[i]? = some (some v)) : (i, am_up ad v) ∈ am_pr ad L := by
  unfold am_pr
  rw [List.mem_filterMap]
  refine ⟨i, List.mem_range.mpr (List.getElem?_eq_some_iff.mp h).1, ?_⟩
  rw [h]; rfl
theorem am_L.has {ad : Nat → Nat} {nL : Nat} {L : List (Option Value)} {ls : Array Slot} (h : am_L ad nL L ls) : lv_has ls nL (am_pr ad L) := by
  refine ⟨h.1, h.2.1, fun q hq => ?_⟩
  unfold am_pr at hq
  obtain ⟨i, -, hi⟩ := List.mem_filterMap.mp hq
  cases hx : L[i]? with
  | none => rw [hx] at hi; simp at hi
  | some o =>
    cases o with
    | none => rw [hx] at hi; simp at hi
    | some v =>
      rw [hx] at hi
      simp at hi
      subst hi
      exact (h.2.2 i v hx).1
theorem am_L.back {ad : Nat → Nat} {nL i : Nat} {v : Value} {L : List (Option Value)} {ls ls' : Array Slot} (h : am_L ad nL L ls) (hc : v.category = 1) (h' : lv_has ls' nL ((i, am_up ad v) :: (am_pr ad L).filter (fun q => !(q.1 == i) && !(q.1 + 1 == i && q.2.category == 2)))) : am_L ad nL (L.set i (some v)) ls' := by
  refine ⟨h'.1, h'.2.1, fun j u hj => ?_⟩
  rw [List.getElem?_set] at hj
  by_cases e : i = j
  · subst e
    rw [if_pos rfl] at hj
    split at hj
    · cases hj
      exact ⟨h'.2.2 _ List.mem_cons_self, hc⟩
    · cases hj
  · rw [if_neg e] at hj
    have h1 := h.2.2 j u hj
    refine ⟨h'.2.2 (j, am_up ad u) (List.mem_cons_of_mem _ (List.mem_filter.mpr ⟨am_pr_mem hj, ?_⟩)), h1.2⟩
    have e2 : ¬ j = i := fun z => e z.symm
    simp [e2, am_up_cat, h1.2]
theorem am_L.at {ad : Nat → Nat} {nL i : Nat} {v : Value} {L : List (Option Value)} {ls : Array Slot} (h : am_L ad nL L ls) (hi : L[i]? = some (some v)) : ls[i]? = some (.val (am_up ad v)) := (h.2.2 i v hi).1
theorem am_C.at {C : am_Cfg} {x : am_X} {bc bs mi : Nat} {L : List (Option Value)} {S : am_S} {n : Nat} {d : am_D} {p : Program} {s : State} {m : MethodId} {args : Array Value} {meth : Method} {c : Code} {H : Heap} {locs : List Loc} {cells slots mc ms : Nat} {ls : Array Slot} (h : am_C C x bc bs mi L S n d p s m args meth c H locs cells slots mc ms ls) : am_L (am_ad x) (am_mt C mi).2.2.1 L ls := h.2.2.2.2.2
theorem am_C.to {C : am_Cfg} {x : am_X} {bc bs mi : Nat} {L L' : List (Option Value)} {S : am_S} {n : Nat} {d : am_D} {p : Program} {s : State} {m : MethodId} {args : Array Value} {meth : Method} {c : Code} {H : Heap} {locs : List Loc} {cells slots mc ms : Nat} {ls ls' : Array Slot} (h : am_C C x bc bs mi L S n d p s m args meth c H locs cells slots mc ms ls) (h' : am_L (am_ad x) (am_mt C mi).2.2.1 L' ls') : am_C C x bc bs mi L' S n d p s m args meth c H locs cells slots mc ms ls' := ⟨h.1, h.2.1, h.2.2.1, h.2.2.2.1, h.2.2.2.2.1, h'⟩
def am_bin (f : Int32 → Int32 → Int32) (n pc : Nat) (L : List (Option Value)) (st : List Value) : Option (Nat × List (Option Value) × List Value) := if n = 1 then (match st with
  | .int y :: .int x :: r => some (pc + 1, L, .int (f x y) :: r)
  | _ => none) else none
def am_un (f : Int32 → Int32) (n pc : Nat) (L : List (Option Value)) (st : List Value) : Option (Nat × List (Option Value) × List Value) := if n = 1 then (match st with
  | .int x :: r => some (pc + 1, L, .int (f x) :: r)
  | _ => none) else none
def am_ild (i k n pc : Nat) (L : List (Option Value)) (st : List Value) : Option (Nat × List (Option Value) × List Value) := if n = k then (match L[i]? with
  | some (some (.int x)) => some (pc + k, L, .int x :: st)
  | _ => none) else none
def am_ald (i k n pc : Nat) (L : List (Option Value)) (st : List Value) : Option (Nat × List (Option Value) × List Value) := if n = k then (match L[i]? with
  | some (some (.ref x)) => some (pc + k, L, .ref x :: st)
  | _ => none) else none
def am_ist (nL i k n pc : Nat) (L : List (Option Value)) (st : List Value) : Option (Nat × List (Option Value) × List Value) := if n = k ∧ i < nL then (match st with
  | .int x :: r => some (pc + k, L.set i (some (.int x)), r)
  | _ => none) else none
def am_ast (nL i k n pc : Nat) (L : List (Option Value)) (st : List Value) : Option (Nat × List (Option Value) × List Value) := if n = k ∧ i < nL then (match st with
  | .ref x :: r => some (pc + k, L.set i (some (.ref x)), r)
  | _ => none) else none
def am_inc (nL i : Nat) (k : Int) (n pc : Nat) (L : List (Option Value)) (st : List Value) : Option (Nat × List (Option Value) × List Value) := if n = 3 ∧ i < nL then (match L[i]? with
  | some (some (.int x)) => some (pc + 3, L.set i (some (.int (x + Int32.ofInt k))), st)
  | _ => none) else none
def am_cst (v : Int32) (k n pc : Nat) (L : List (Option Value)) (st : List Value) : Option (Nat × List (Option Value) × List Value) := if n = k then some (pc + k, L, .int v :: st) else none
def am_is1 (v : Value) : Bool := v.category == 1
def am_dup1 (n pc : Nat) (L : List (Option Value)) (st : List Value) : Option (Nat × List (Option Value) × List Value) := if n = 1 then (match st with
  | a :: r => if am_is1 a = true then some (pc + 1, L, a :: a :: r) else none
  | _ => none) else none
def am_pop1 (n pc : Nat) (L : List (Option Value)) (st : List Value) : Option (Nat × List (Option Value) × List Value) := if n = 1 then (match st with
  | a :: r => if am_is1 a = true then some (pc + 1, L, r) else none
  | _ => none) else none
def am_dupx1 (n pc : Nat) (L : List (Option Value)) (st : List Value) : Option (Nat × List (Option Value) × List Value) := if n = 1 then (match st with
  | a :: b :: r => if am_is1 a = true ∧ am_is1 b = true then some (pc + 1, L, a :: b :: a :: r) else none
  | _ => none) else none
def am_dupx2 (n pc : Nat) (L : List (Option Value)) (st : List Value) : Option (Nat × List (Option Value) × List Value) := if n = 1 then (match st with
  | a :: b :: c :: r => if am_is1 a = true ∧ am_is1 b = true ∧ am_is1 c = true then some (pc + 1, L, a :: b :: c :: a :: r) else none
  | _ => none) else none
def am_dup2 (n pc : Nat) (L : List (Option Value)) (st : List Value) : Option (Nat × List (Option Value) × List Value) := if n = 1 then (match st with
  | a :: b :: r => if am_is1 a = true ∧ am_is1 b = true then some (pc + 1, L, a :: b :: a :: b :: r) else none
  | _ => none) else none
def am_jmp (off : Int) (n pc : Nat) (L : List (Option Value)) (st : List Value) : Option (Nat × List (Option Value) × List Value) := if n = 3 ∧ 0 ≤ (pc : Int) + off then some (((pc : Int) + off).toNat, L, st) else none
def am_pure (nL : Nat) (i : Jvm.ClassFile.Instr) (n pc : Nat) (L : List (Option Value)) (st : List Value) : Option (Nat × List (Option Value) × List Value) := match i with
  | .iconst k => am_cst (Int32.ofInt k) 1 n pc L st
  | .bipush k => am_cst (Int8.ofInt k).toInt32 2 n pc L st
  | .sipush k => am_cst (Int16.ofInt k).toInt32 3 n pc L st
  | .iload i => am_ild i 2 n pc L st
  | .iload_n i => am_ild i.val 1 n pc L st
  | .aload i => am_ald i 2 n pc L st
  | .aload_n i => am_ald i.val 1 n pc L st
  | .istore i => am_ist nL i 2 n pc L st
  | .istore_n i => am_ist nL i.val 1 n pc L st
  | .astore i => am_ast nL i 2 n pc L st
  | .astore_n i => am_ast nL i.val 1 n pc L st
  | .iinc i k => am_inc nL i k n pc L st
  | .iadd => am_bin (fun x y => x + y) n pc L st
  | .isub => am_bin (fun x y => x - y) n pc L st
  | .imul => am_bin (fun x y => x * y) n pc L st
  | .iand => am_bin (fun x y => x &&& y) n pc L st
  | .ior => am_bin (fun x y => x ||| y) n pc L st
  | .ixor => am_bin (fun x y => x ^^^ y) n pc L st
  | .ishl => am_bin (fun x y => x <<< (y &&& 31)) n pc L st
  | .ishr => am_bin (fun x y => x >>> (y &&& 31)) n pc L st
  | .iushr => am_bin (fun x y => (x.toUInt32 >>> (y.toUInt32 &&& Int32.toUInt32 31)).toInt32) n pc L st
  | .ineg => am_un (fun x => -x) n pc L st
  | .i2c => am_un (fun x => (x.toUInt32 % 65536).toInt32) n pc L st
  | .dup => am_dup1 n pc L st
  | .pop => am_pop1 n pc L st
  | .dup_x1 => am_dupx1 n pc L st
  | .dup_x2 => am_dupx2 n pc L st
  | .dup2 => am_dup2 n pc L st
  | .goto off => am_jmp off n pc L st
  | _ => none
theorem am_p_iconst {l : Launch} {C : am_Cfg} {x : am_X} {dep bc bs mi pc pc' n : Nat} {L L' : List (Option Value)} {st st' : List Value} {S : am_S} {nn : Nat} {d : am_D} {Q : Option Value → am_S → Nat → am_D → Prop} {k : Int} (h : am_cst (Int32.ofInt k) 1 n pc L st = some (pc', L', st')) (hd : decode (am_mt C mi).2.1 pc = .ok (.iconst k, n)) (kk : am_W l C x dep bc bs mi pc' L' st' S nn d Q) : am_W l C x dep bc bs mi pc L st S nn d Q := by
  intro p e s m args below meth c H locs cells slots mc ms ls hC
  have hx := hC.1.1
  have hb := hC.1.2.1
  unfold am_cst at h; split at h
  · rename_i hn; subst hn; cases h
    exact lv_iconst hx hb hd rfl (kk p e s m args below meth c H locs cells slots mc ms ls hC)
  · cases h
theorem am_p_bipush {l : Launch} {C : am_Cfg} {x : am_X} {dep bc bs mi pc pc' n : Nat} {L L' : List (Option Value)} {st st' : List Value} {S : am_S} {nn : Nat} {d : am_D} {Q : Option Value → am_S → Nat → am_D → Prop} {k : Int} (h : am_cst (Int8.ofInt k).toInt32 2 n pc L st = some (pc', L', st')) (hd : decode (am_mt C mi).2.1 pc = .ok (.bipush k, n)) (kk : am_W l C x dep bc bs mi pc' L' st' S nn d Q) : am_W l C x dep bc bs mi pc L st S nn d Q := by
  intro p e s m args below meth c H locs cells slots mc ms ls hC
  have hx := hC.1.1
  have hb := hC.1.2.1
  unfold am_cst at h; split at h
  · rename_i hn; subst hn; cases h
    exact lv_bipush hx hb hd rfl (kk p e s m args below meth c H locs cells slots mc ms ls hC)
  · cases h
theorem am_p_sipush {l : Launch} {C : am_Cfg} {x : am_X} {dep bc bs mi pc pc' n : Nat} {L L' : List (Option Value)} {st st' : List Value} {S : am_S} {nn : Nat} {d : am_D} {Q : Option Value → am_S → Nat → am_D → Prop} {k : Int} (h : am_cst (Int16.ofInt k).toInt32 3 n pc L st = some (pc', L', st')) (hd : decode (am_mt C mi).2.1 pc = .ok (.sipush k, n)) (kk : am_W l C x dep bc bs mi pc' L' st' S nn d Q) : am_W l C x dep bc bs mi pc L st S nn d Q := by
  intro p e s m args below meth c H locs cells slots mc ms ls hC
  have hx := hC.1.1
  have hb := hC.1.2.1
  unfold am_cst at h; split at h
  · rename_i hn; subst hn; cases h
    exact lv_sipush hx hb hd rfl (kk p e s m args below meth c H locs cells slots mc ms ls hC)
  · cases h
theorem am_p_iload {l : Launch} {C : am_Cfg} {x : am_X} {dep bc bs mi pc pc' n : Nat} {L L' : List (Option Value)} {st st' : List Value} {S : am_S} {nn : Nat} {d : am_D} {Q : Option Value → am_S → Nat → am_D → Prop} {i : Nat} (h : am_ild i 2 n pc L st = some (pc', L', st')) (hd : decode (am_mt C mi).2.1 pc = .ok (.iload i, n)) (kk : am_W l C x dep bc bs mi pc' L' st' S nn d Q) : am_W l C x dep bc bs mi pc L st S nn d Q := by
  intro p e s m args below meth c H locs cells slots mc ms ls hC
  have hx := hC.1.1
  have hb := hC.1.2.1
  unfold am_ild at h; split at h
  · rename_i hn; subst hn; split at h
    · rename_i y hv; cases h
      exact lv_iload hx hb hd (hC.at.at hv) (kk p e s m args below meth c H locs cells slots mc ms ls hC)
    · cases h
  · cases h
theorem am_p_iload_n {l : Launch} {C : am_Cfg} {x : am_X} {dep bc bs mi pc pc' n : Nat} {L L' : List (Option Value)} {st st' : List Value} {S : am_S} {nn : Nat} {d : am_D} {Q : Option Value → am_S → Nat → am_D → Prop} {i : Fin 4} (h : am_ild i.val 1 n pc L st = some (pc', L', st')) (hd : decode (am_mt C mi).2.1 pc = .ok (.iload_n i, n)) (kk : am_W l C x dep bc bs mi pc' L' st' S nn d Q) : am_W l C x dep bc bs mi pc L st S nn d Q := by
  intro p e s m args below meth c H locs cells slots mc ms ls hC
  have hx := hC.1.1
  have hb := hC.1.2.1
  unfold am_ild at h; split at h
  · rename_i hn; subst hn; split at h
    · rename_i y hv; cases h
      exact lv_iload_n hx hb hd rfl (hC.at.at hv) (kk p e s m args below meth c H locs cells slots mc ms ls hC)
    · cases h
  · cases h
theorem am_p_aload {l : Launch} {C : am_Cfg} {x : am_X} {dep bc bs mi pc pc' n : Nat} {L L' : List (Option Value)} {st st' : List Value} {S : am_S} {nn : Nat} {d : am_D} {Q : Option Value → am_S → Nat → am_D → Prop} {i : Nat} (h : am_ald i 2 n pc L st = some (pc', L', st')) (hd : decode (am_mt C mi).2.1 pc = .ok (.aload i, n)) (kk : am_W l C x dep bc bs mi pc' L' st' S nn d Q) : am_W l C x dep bc bs mi pc L st S nn d Q := by
  intro p e s m args below meth c H locs cells slots mc ms ls hC
  have hx := hC.1.1
  have hb := hC.1.2.1
  unfold am_ald at h; split at h
  · rename_i hn; subst hn; split at h
    · rename_i y hv; cases h
      exact lv_aload hx hb hd (hC.at.at hv) (kk p e s m args below meth c H locs cells slots mc ms ls hC)
    · cases h
  · cases h
theorem am_p_aload_n {l : Launch} {C : am_Cfg} {x : am_X} {dep bc bs mi pc pc' n : Nat} {L L' : List (Option Value)} {st st' : List Value} {S : am_S} {nn : Nat} {d : am_D} {Q : Option Value → am_S → Nat → am_D → Prop} {i : Fin 4} (h : am_ald i.val 1 n pc L st = some (pc', L', st')) (hd : decode (am_mt C mi).2.1 pc = .ok (.aload_n i, n)) (kk : am_W l C x dep bc bs mi pc' L' st' S nn d Q) : am_W l C x dep bc bs mi pc L st S nn d Q := by
  intro p e s m args below meth c H locs cells slots mc ms ls hC
  have hx := hC.1.1
  have hb := hC.1.2.1
  unfold am_ald at h; split at h
  · rename_i hn; subst hn; split at h
    · rename_i y hv; cases h
      exact lv_aload_n hx hb hd rfl (hC.at.at hv) (kk p e s m args below meth c H locs cells slots mc ms ls hC)
    · cases h
  · cases h
theorem am_p_istore {l : Launch} {C : am_Cfg} {x : am_X} {dep bc bs mi pc pc' n : Nat} {L L' : List (Option Value)} {st st' : List Value} {S : am_S} {nn : Nat} {d : am_D} {Q : Option Value → am_S → Nat → am_D → Prop} {i : Nat} (h : am_ist (am_mt C mi).2.2.1 i 2 n pc L st = some (pc', L', st')) (hd : decode (am_mt C mi).2.1 pc = .ok (.istore i, n)) (kk : am_W l C x dep bc bs mi pc' L' st' S nn d Q) : am_W l C x dep bc bs mi pc L st S nn d Q := by
  intro p e s m args below meth c H locs cells slots mc ms ls hC
  have hx := hC.1.1
  have hb := hC.1.2.1
  unfold am_ist at h; split at h
  · rename_i hn; obtain ⟨hn1, hn2⟩ := hn; subst hn1; split at h
    · rename_i y r; cases h
      exact lv_istore hx hb hd hC.at.has hn2 rfl (fun ls' h' => kk p e s m args below meth c H locs cells slots mc ms ls' (hC.to (hC.at.back rfl h')))
    · cases h
  · cases h
theorem am_p_istore_n {l : Launch} {C : am_Cfg} {x : am_X} {dep bc bs mi pc pc' n : Nat} {L L' : List (Option Value)} {st st' : List Value} {S : am_S} {nn : Nat} {d : am_D} {Q : Option Value → am_S → Nat → am_D → Prop} {i : Fin 4} (h : am_ist (am_mt C mi).2.2.1 i.val 1 n pc L st = some (pc', L', st')) (hd : decode (am_mt C mi).2.1 pc = .ok (.istore_n i, n)) (kk : am_W l C x dep bc bs mi pc' L' st' S nn d Q) : am_W l C x dep bc bs mi pc L st S nn d Q := by
  intro p e s m args below meth c H locs cells slots mc ms ls hC
  have hx := hC.1.1
  have hb := hC.1.2.1
  unfold am_ist at h; split at h
  · rename_i hn; obtain ⟨hn1, hn2⟩ := hn; subst hn1; split at h
    · rename_i y r; cases h
      exact lv_istore_n hx hb hd rfl hC.at.has hn2 rfl (fun ls' h' => kk p e s m args below meth c H locs cells slots mc ms ls' (hC.to (hC.at.back rfl h')))
    · cases h
  · cases h
theorem am_p_astore {l : Launch} {C : am_Cfg} {x : am_X} {dep bc bs mi pc pc' n : Nat} {L L' : List (Option Value)} {st st' : List Value} {S : am_S} {nn : Nat} {d : am_D} {Q : Option Value → am_S → Nat → am_D → Prop} {i : Nat} (h : am_ast (am_mt C mi).2.2.1 i 2 n pc L st = some (pc', L', st')) (hd : decode (am_mt C mi).2.1 pc = .ok (.astore i, n)) (kk : am_W l C x dep bc bs mi pc' L' st' S nn d Q) : am_W l C x dep bc bs mi pc L st S nn d Q := by
  intro p e s m args below meth c H locs cells slots mc ms ls hC
  have hx := hC.1.1
  have hb := hC.1.2.1
  unfold am_ast at h; split at h
  · rename_i hn; obtain ⟨hn1, hn2⟩ := hn; subst hn1; split at h
    · rename_i y r; cases h
      exact lv_astore hx hb hd hC.at.has hn2 rfl (fun ls' h' => kk p e s m args below meth c H locs cells slots mc ms ls' (hC.to (hC.at.back rfl h')))
    · cases h
  · cases h
theorem am_p_astore_n {l : Launch} {C : am_Cfg} {x : am_X} {dep bc bs mi pc pc' n : Nat} {L L' : List (Option Value)} {st st' : List Value} {S : am_S} {nn : Nat} {d : am_D} {Q : Option Value → am_S → Nat → am_D → Prop} {i : Fin 4} (h : am_ast (am_mt C mi).2.2.1 i.val 1 n pc L st = some (pc', L', st')) (hd : decode (am_mt C mi).2.1 pc = .ok (.astore_n i, n)) (kk : am_W l C x dep bc bs mi pc' L' st' S nn d Q) : am_W l C x dep bc bs mi pc L st S nn d Q := by
  intro p e s m args below meth c H locs cells slots mc ms ls hC
  have hx := hC.1.1
  have hb := hC.1.2.1
  unfold am_ast at h; split at h
  · rename_i hn; obtain ⟨hn1, hn2⟩ := hn; subst hn1; split at h
    · rename_i y r; cases h
      exact lv_astore_n hx hb hd rfl hC.at.has hn2 rfl (fun ls' h' => kk p e s m args below meth c H locs cells slots mc ms ls' (hC.to (hC.at.back rfl h')))
    · cases h
  · cases h
theorem am_p_iinc {l : Launch} {C : am_Cfg} {x : am_X} {dep bc bs mi pc pc' n : Nat} {L L' : List (Option Value)} {st st' : List Value} {S : am_S} {nn : Nat} {d : am_D} {Q : Option Value → am_S → Nat → am_D → Prop} {i : Nat} {k : Int} (h : am_inc (am_mt C mi).2.2.1 i k n pc L st = some (pc', L', st')) (hd : decode (am_mt C mi).2.1 pc = .ok (.iinc i k, n)) (kk : am_W l C x dep bc bs mi pc' L' st' S nn d Q) : am_W l C x dep bc bs mi pc L st S nn d Q := by
  intro p e s m args below meth c H locs cells slots mc ms ls hC
  have hx := hC.1.1
  have hb := hC.1.2.1
  unfold am_inc at h; split at h
  · rename_i hn; obtain ⟨hn1, hn2⟩ := hn; subst hn1; split at h
    · rename_i y hv; cases h
      obtain ⟨j, hj⟩ := List.getElem?_of_mem (am_pr_mem (ad := am_ad x) hv)
      exact lv_iinc hx hb hd hC.at.has hj rfl hn2 rfl (fun ls' h' => kk p e s m args below meth c H locs cells slots mc ms ls' (hC.to (hC.at.back rfl h')))
    · cases h
  · cases h
theorem am_p_iadd {l : Launch} {C : am_Cfg} {x : am_X} {dep bc bs mi pc pc' n : Nat} {L L' : List (Option Value)} {st st' : List Value} {S : am_S} {nn : Nat} {d : am_D} {Q : Option Value → am_S → Nat → am_D → Prop} (h : am_bin (fun x y => x + y) n pc L st = some (pc', L', st')) (hd : decode (am_mt C mi).2.1 pc = .ok (.iadd, n)) (kk : am_W l C x dep bc bs mi pc' L' st' S nn d Q) : am_W l C x dep bc bs mi pc L st S nn d Q := by
  intro p e s m args below meth c H locs cells slots mc ms ls hC
  have hx := hC.1.1
  have hb := hC.1.2.1
  unfold am_bin at h; split at h
  · rename_i hn; subst hn; split at h
    · cases h
      exact lv_iadd hx hb hd (kk p e s m args below meth c H locs cells slots mc ms ls hC)
    · cases h
  · cases h
theorem am_p_isub {l : Launch} {C : am_Cfg} {x : am_X} {dep bc bs mi pc pc' n : Nat} {L L' : List (Option Value)} {st st' : List Value} {S : am_S} {nn : Nat} {d : am_D} {Q : Option Value → am_S → Nat → am_D → Prop} (h : am_bin (fun x y => x - y) n pc L st = some (pc', L', st')) (hd : decode (am_mt C mi).2.1 pc = .ok (.isub, n)) (kk : am_W l C x dep bc bs mi pc' L' st' S nn d Q) : am_W l C x dep bc bs mi pc L st S nn d Q := by
  intro p e s m args below meth c H locs cells slots mc ms ls hC
  have hx := hC.1.1
  have hb := hC.1.2.1
  unfold am_bin at h; split at h
  · rename_i hn; subst hn; split at h
    · cases h
      exact lv_isub hx hb hd (kk p e s m args below meth c H locs cells slots mc ms ls hC)
    · cases h
  · cases h
theorem am_p_imul {l : Launch} {C : am_Cfg} {x : am_X} {dep bc bs mi pc pc' n : Nat} {L L' : List (Option Value)} {st st' : List Value} {S : am_S} {nn : Nat} {d : am_D} {Q : Option Value → am_S → Nat → am_D → Prop} (h : am_bin (fun x y => x * y) n pc L st = some (pc', L', st')) (hd : decode (am_mt C mi).2.1 pc = .ok (.imul, n)) (kk : am_W l C x dep bc bs mi pc' L' st' S nn d Q) : am_W l C x dep bc bs mi pc L st S nn d Q := by
  intro p e s m args below meth c H locs cells slots mc ms ls hC
  have hx := hC.1.1
  have hb := hC.1.2.1
  unfold am_bin at h; split at h
  · rename_i hn; subst hn; split at h
    · cases h
      exact lv_imul hx hb hd (kk p e s m args below meth c H locs cells slots mc ms ls hC)
    · cases h
  · cases h
theorem am_p_iand {l : Launch} {C : am_Cfg} {x : am_X} {dep bc bs mi pc pc' n : Nat} {L L' : List (Option Value)} {st st' : List Value} {S : am_S} {nn : Nat} {d : am_D} {Q : Option Value → am_S → Nat → am_D → Prop} (h : am_bin (fun x y => x &&& y) n pc L st = some (pc', L', st')) (hd : decode (am_mt C mi).2.1 pc = .ok (.iand, n)) (kk : am_W l C x dep bc bs mi pc' L' st' S nn d Q) : am_W l C x dep bc bs mi pc L st S nn d Q := by
  intro p e s m args below meth c H locs cells slots mc ms ls hC
  have hx := hC.1.1
  have hb := hC.1.2.1
  unfold am_bin at h; split at h
  · rename_i hn; subst hn; split at h
    · cases h
      exact lv_iand hx hb hd (kk p e s m args below meth c H locs cells slots mc ms ls hC)
    · cases h
  · cases h
theorem am_p_ior {l : Launch} {C : am_Cfg} {x : am_X} {dep bc bs mi pc pc' n : Nat} {L L' : List (Option Value)} {st st' : List Value} {S : am_S} {nn : Nat} {d : am_D} {Q : Option Value → am_S → Nat → am_D → Prop} (h : am_bin (fun x y => x ||| y) n pc L st = some (pc', L', st')) (hd : decode (am_mt C mi).2.1 pc = .ok (.ior, n)) (kk : am_W l C x dep bc bs mi pc' L' st' S nn d Q) : am_W l C x dep bc bs mi pc L st S nn d Q := by
  intro p e s m args below meth c H locs cells slots mc ms ls hC
  have hx := hC.1.1
  have hb := hC.1.2.1
  unfold am_bin at h; split at h
  · rename_i hn; subst hn; split at h
    · cases h
      exact lv_ior hx hb hd (kk p e s m args below meth c H locs cells slots mc ms ls hC)
    · cases h
  · cases h
theorem am_p_ixor {l : Launch} {C : am_Cfg} {x : am_X} {dep bc bs mi pc pc' n : Nat} {L L' : List (Option Value)} {st st' : List Value} {S : am_S} {nn : Nat} {d : am_D} {Q : Option Value → am_S → Nat → am_D → Prop} (h : am_bin (fun x y => x ^^^ y) n pc L st = some (pc', L', st')) (hd : decode (am_mt C mi).2.1 pc = .ok (.ixor, n)) (kk : am_W l C x dep bc bs mi pc' L' st' S nn d Q) : am_W l C x dep bc bs mi pc L st S nn d Q := by
  intro p e s m args below meth c H locs cells slots mc ms ls hC
  have hx := hC.1.1
  have hb := hC.1.2.1
  unfold am_bin at h; split at h
  · rename_i hn; subst hn; split at h
    · cases h
      exact lv_ixor hx hb hd (kk p e s m args below meth c H locs cells slots mc ms ls hC)
    · cases h
  · cases h
theorem am_p_ishl {l : Launch} {C : am_Cfg} {x : am_X} {dep bc bs mi pc pc' n : Nat} {L L' : List (Option Value)} {st st' : List Value} {S : am_S} {nn : Nat} {d : am_D} {Q : Option Value → am_S → Nat → am_D → Prop} (h : am_bin (fun x y => x <<< (y &&& 31)) n pc L st = some (pc', L', st')) (hd : decode (am_mt C mi).2.1 pc = .ok (.ishl, n)) (kk : am_W l C x dep bc bs mi pc' L' st' S nn d Q) : am_W l C x dep bc bs mi pc L st S nn d Q := by
  intro p e s m args below meth c H locs cells slots mc ms ls hC
  have hx := hC.1.1
  have hb := hC.1.2.1
  unfold am_bin at h; split at h
  · rename_i hn; subst hn; split at h
    · cases h
      exact lv_ishl hx hb hd (kk p e s m args below meth c H locs cells slots mc ms ls hC)
    · cases h
  · cases h
theorem am_p_ishr {l : Launch} {C : am_Cfg} {x : am_X} {dep bc bs mi pc pc' n : Nat} {L L' : List (Option Value)} {st st' : List Value} {S : am_S} {nn : Nat} {d : am_D} {Q : Option Value → am_S → Nat → am_D → Prop} (h : am_bin (fun x y => x >>> (y &&& 31)) n pc L st = some (pc', L', st')) (hd : decode (am_mt C mi).2.1 pc = .ok (.ishr, n)) (kk : am_W l C x dep bc bs mi pc' L' st' S nn d Q) : am_W l C x dep bc bs mi pc L st S nn d Q := by
  intro p e s m args below meth c H locs cells slots mc ms ls hC
  have hx := hC.1.1
  have hb := hC.1.2.1
  unfold am_bin at h; split at h
  · rename_i hn; subst hn; split at h
    · cases h
      exact lv_ishr hx hb hd (kk p e s m args below meth c H locs cells slots mc ms ls hC)
    · cases h
  · cases h
theorem am_p_iushr {l : Launch} {C : am_Cfg} {x : am_X} {dep bc bs mi pc pc' n : Nat} {L L' : List (Option Value)} {st st' : List Value} {S : am_S} {nn : Nat} {d : am_D} {Q : Option Value → am_S → Nat → am_D → Prop} (h : am_bin (fun x y => (x.toUInt32 >>> (y.toUInt32 &&& Int32.toUInt32 31)).toInt32) n pc L st = some (pc', L', st')) (hd : decode (am_mt C mi).2.1 pc = .ok (.iushr, n)) (kk : am_W l C x dep bc bs mi pc' L' st' S nn d Q) : am_W l C x dep bc bs mi pc L st S nn d Q := by
  intro p e s m args below meth c H locs cells slots mc ms ls hC
  have hx := hC.1.1
  have hb := hC.1.2.1
  unfold am_bin at h; split at h
  · rename_i hn; subst hn; split at h
    · cases h
      exact lv_iushr hx hb hd rfl (kk p e s m args below meth c H locs cells slots mc ms ls hC)
    · cases h
  · cases h
theorem am_p_ineg {l : Launch} {C : am_Cfg} {x : am_X} {dep bc bs mi pc pc' n : Nat} {L L' : List (Option Value)} {st st' : List Value} {S : am_S} {nn : Nat} {d : am_D} {Q : Option Value → am_S → Nat → am_D → Prop} (h : am_un (fun x => -x) n pc L st = some (pc', L', st')) (hd : decode (am_mt C mi).2.1 pc = .ok (.ineg, n)) (kk : am_W l C x dep bc bs mi pc' L' st' S nn d Q) : am_W l C x dep bc bs mi pc L st S nn d Q := by
  intro p e s m args below meth c H locs cells slots mc ms ls hC
  have hx := hC.1.1
  have hb := hC.1.2.1
  unfold am_un at h; split at h
  · rename_i hn; subst hn; split at h
    · cases h
      exact lv_ineg hx hb hd (kk p e s m args below meth c H locs cells slots mc ms ls hC)
    · cases h
  · cases h
theorem am_p_i2c {l : Launch} {C : am_Cfg} {x : am_X} {dep bc bs mi pc pc' n : Nat} {L L' : List (Option Value)} {st st' : List Value} {S : am_S} {nn : Nat} {d : am_D} {Q : Option Value → am_S → Nat → am_D → Prop} (h : am_un (fun x => (x.toUInt32 % 65536).toInt32) n pc L st = some (pc', L', st')) (hd : decode (am_mt C mi).2.1 pc = .ok (.i2c, n)) (kk : am_W l C x dep bc bs mi pc' L' st' S nn d Q) : am_W l C x dep bc bs mi pc L st S nn d Q := by
  intro p e s m args below meth c H locs cells slots mc ms ls hC
  have hx := hC.1.1
  have hb := hC.1.2.1
  unfold am_un at h; split at h
  · rename_i hn; subst hn; split at h
    · cases h
      exact lv_i2c hx hb hd rfl (kk p e s m args below meth c H locs cells slots mc ms ls hC)
    · cases h
  · cases h
theorem am_p_dup {l : Launch} {C : am_Cfg} {x : am_X} {dep bc bs mi pc pc' n : Nat} {L L' : List (Option Value)} {st st' : List Value} {S : am_S} {nn : Nat} {d : am_D} {Q : Option Value → am_S → Nat → am_D → Prop} (h : am_dup1 n pc L st = some (pc', L', st')) (hd : decode (am_mt C mi).2.1 pc = .ok (.dup, n)) (kk : am_W l C x dep bc bs mi pc' L' st' S nn d Q) : am_W l C x dep bc bs mi pc L st S nn d Q := by
  intro p e s m args below meth c H locs cells slots mc ms ls hC
  have hx := hC.1.1
  have hb := hC.1.2.1
  unfold am_dup1 at h; split at h
  · rename_i hn; subst hn; split at h
    · split at h
      · rename_i hc; cases h
        exact lv_dup hx hb hd (by rw [am_up_cat]; exact eq_of_beq hc) (kk p e s m args below meth c H locs cells slots mc ms ls hC)
      · cases h
    · cases h
  · cases h
theorem am_p_pop {l : Launch} {C : am_Cfg} {x : am_X} {dep bc bs mi pc pc' n : Nat} {L L' : List (Option Value)} {st st' : List Value} {S : am_S} {nn : Nat} {d : am_D} {Q : Option Value → am_S → Nat → am_D → Prop} (h : am_pop1 n pc L st = some (pc', L', st')) (hd : decode (am_mt C mi).2.1 pc = .ok (.pop, n)) (kk : am_W l C x dep bc bs mi pc' L' st' S nn d Q) : am_W l C x dep bc bs mi pc L st S nn d Q := by
  intro p e s m args below meth c H locs cells slots mc ms ls hC
  have hx := hC.1.1
  have hb := hC.1.2.1
  unfold am_pop1 at h; split at h
  · rename_i hn; subst hn; split at h
    · split at h
      · rename_i hc; cases h
        exact lv_pop hx hb hd (by rw [am_up_cat]; exact eq_of_beq hc) (kk p e s m args below meth c H locs cells slots mc ms ls hC)
      · cases h
    · cases h
  · cases h
theorem am_p_dup_x1 {l : Launch} {C : am_Cfg} {x : am_X} {dep bc bs mi pc pc' n : Nat} {L L' : List (Option Value)} {st st' : List Value} {S : am_S} {nn : Nat} {d : am_D} {Q : Option Value → am_S → Nat → am_D → Prop} (h : am_dupx1 n pc L st = some (pc', L', st')) (hd : decode (am_mt C mi).2.1 pc = .ok (.dup_x1, n)) (kk : am_W l C x dep bc bs mi pc' L' st' S nn d Q) : am_W l C x dep bc bs mi pc L st S nn d Q := by
  intro p e s m args below meth c H locs cells slots mc ms ls hC
  have hx := hC.1.1
  have hb := hC.1.2.1
  unfold am_dupx1 at h; split at h
  · rename_i hn; subst hn; split at h
    · split at h
      · rename_i hc; cases h
        exact lv_dup_x1 hx hb hd (by rw [am_up_cat]; exact eq_of_beq hc.1) (by rw [am_up_cat]; exact eq_of_beq hc.2) (kk p e s m args below meth c H locs cells slots mc ms ls hC)
      · cases h
    · cases h
  · cases h
theorem am_p_dup_x2 {l : Launch} {C : am_Cfg} {x : am_X} {dep bc bs mi pc pc' n : Nat} {L L' : List (Option Value)} {st st' : List Value} {S : am_S} {nn : Nat} {d : am_D} {Q : Option Value → am_S → Nat → am_D → Prop} (h : am_dupx2 n pc L st = some (pc', L', st')) (hd : decode (am_mt C mi).2.1 pc = .ok (.dup_x2, n)) (kk : am_W l C x dep bc bs mi pc' L' st' S nn d Q) : am_W l C x dep bc bs mi pc L st S nn d Q := by
  intro p e s m args below meth c H locs cells slots mc ms ls hC
  have hx := hC.1.1
  have hb := hC.1.2.1
  unfold am_dupx2 at h; split at h
  · rename_i hn; subst hn; split at h
    · split at h
      · rename_i hc; cases h
        exact lv_dup_x2 hx hb hd (by rw [am_up_cat]; exact eq_of_beq hc.1) (by rw [am_up_cat]; exact eq_of_beq hc.2.1) (by rw [am_up_cat]; exact eq_of_beq hc.2.2) (kk p e s m args below meth c H locs cells slots mc ms ls hC)
      · cases h
    · cases h
  · cases h
theorem am_p_dup2 {l : Launch} {C : am_Cfg} {x : am_X} {dep bc bs mi pc pc' n : Nat} {L L' : List (Option Value)} {st st' : List Value} {S : am_S} {nn : Nat} {d : am_D} {Q : Option Value → am_S → Nat → am_D → Prop} (h : am_dup2 n pc L st = some (pc', L', st')) (hd : decode (am_mt C mi).2.1 pc = .ok (.dup2, n)) (kk : am_W l C x dep bc bs mi pc' L' st' S nn d Q) : am_W l C x dep bc bs mi pc L st S nn d Q := by
  intro p e s m args below meth c H locs cells slots mc ms ls hC
  have hx := hC.1.1
  have hb := hC.1.2.1
  unfold am_dup2 at h; split at h
  · rename_i hn; subst hn; split at h
    · split at h
      · rename_i hc; cases h
        exact lv_dup2_11 hx hb hd (by rw [am_up_cat]; exact eq_of_beq hc.1) (by rw [am_up_cat]; exact eq_of_beq hc.2) (kk p e s m args below meth c H locs cells slots mc ms ls hC)
      · cases h
    · cases h
  · cases h
theorem am_p_goto {l : Launch} {C : am_Cfg} {x : am_X} {dep bc bs mi pc pc' n : Nat} {L L' : List (Option Value)} {st st' : List Value} {S : am_S} {nn : Nat} {d : am_D} {Q : Option Value → am_S → Nat → am_D → Prop} {off : Int} (h : am_jmp off n pc L st = some (pc', L', st')) (hd : decode (am_mt C mi).2.1 pc = .ok (.goto off, n)) (kk : am_W l C x dep bc bs mi pc' L' st' S nn d Q) : am_W l C x dep bc bs mi pc L st S nn d Q := by
  intro p e s m args below meth c H locs cells slots mc ms ls hC
  have hx := hC.1.1
  have hb := hC.1.2.1
  unfold am_jmp at h; split at h
  · rename_i hn; obtain ⟨hn1, hn2⟩ := hn; subst hn1; cases h
    exact lv_goto hx hb hd (Int.toNat_of_nonneg hn2).symm (kk p e s m args below meth c H locs cells slots mc ms ls hC)
  · cases h
theorem am_pure_ok {l : Launch} {C : am_Cfg} {x : am_X} {dep bc bs mi pc pc' n : Nat} {L L' : List (Option Value)} {st st' : List Value} {S : am_S} {nn : Nat} {d : am_D} {Q : Option Value → am_S → Nat → am_D → Prop} {i : Jvm.ClassFile.Instr} (h : am_pure (am_mt C mi).2.2.1 i n pc L st = some (pc', L', st')) (hd : decode (am_mt C mi).2.1 pc = .ok (i, n)) (kk : am_W l C x dep bc bs mi pc' L' st' S nn d Q) : am_W l C x dep bc bs mi pc L st S nn d Q := by
  unfold am_pure at h
  split at h
  · exact am_p_iconst h hd kk
  · exact am_p_bipush h hd kk
  · exact am_p_sipush h hd kk
  · exact am_p_iload h hd kk
  · exact am_p_iload_n h hd kk
  · exact am_p_aload h hd kk
  · exact am_p_aload_n h hd kk
  · exact am_p_istore h hd kk
  · exact am_p_istore_n h hd kk
  · exact am_p_astore h hd kk
  · exact am_p_astore_n h hd kk
  · exact am_p_iinc h hd kk
  · exact am_p_iadd h hd kk
  · exact am_p_isub h hd kk
  · exact am_p_imul h hd kk
  · exact am_p_iand h hd kk
  · exact am_p_ior h hd kk
  · exact am_p_ixor h hd kk
  · exact am_p_ishl h hd kk
  · exact am_p_ishr h hd kk
  · exact am_p_iushr h hd kk
  · exact am_p_ineg h hd kk
  · exact am_p_i2c h hd kk
  · exact am_p_dup h hd kk
  · exact am_p_pop h hd kk
  · exact am_p_dup_x1 h hd kk
  · exact am_p_dup_x2 h hd kk
  · exact am_p_dup2 h hd kk
  · exact am_p_goto h hd kk
  · cases h
def am_seg (nL : Nat) : List (Nat × Jvm.ClassFile.Instr × Nat) → Nat → List (Option Value) → List Value → Option (Nat × List (Option Value) × List Value)
  | [], pc, L, st => some (pc, L, st)
  | q :: qs, pc, L, st => if q.1 = pc then (match am_pure nL q.2.1 q.2.2 pc L st with
    | some r => am_seg nL qs r.1 r.2.1 r.2.2
    | none => none) else none
theorem am_seg_ok {l : Launch} {C : am_Cfg} {x : am_X} {dep bc bs mi pc' : Nat} {L' : List (Option Value)} {st' : List Value} {S : am_S} {nn : Nat} {d : am_D} {Q : Option Value → am_S → Nat → am_D → Prop} : ∀ (qs : List (Nat × Jvm.ClassFile.Instr × Nat)) (pc : Nat) (L : List (Option Value)) (st : List Value), (∀ q ∈ qs, decode (am_mt C mi).2.1 q.1 = .ok (q.2.1, q.2.2)) → am_seg (am_mt C mi).2.2.1 qs pc L st = some (pc', L', st') → am_W l C x dep bc bs mi pc' L' st' S nn d Q → am_W l C x dep bc bs mi pc L st S nn d Q
  | [], pc, L, st, _, h, kk => by
    unfold am_seg at h
    cases h
    exact kk
  | q :: qs, pc, L, st, hq, h, kk => by
    unfold am_seg at h
    split at h
    · rename_i e
      split at h
      · rename_i r hr
        refine am_pure_ok hr (by rw [← e]; exact hq q List.mem_cons_self) ?_
        exact am_seg_ok qs r.1 r.2.1 r.2.2 (fun w hw => hq w (List.mem_cons_of_mem _ hw)) h kk
      · cases h
    · cases h
/-- k instructions from the i-th of the method's list on -/
theorem am_go {l : Launch} {C : am_Cfg} {x : am_X} {dep bc bs mi pc : Nat} {L : List (Option Value)} {st : List Value} {S : am_S} {nn : Nat} {d : am_D} {Q : Option Value → am_S → Nat → am_D → Prop} {pc' : Nat} {L' : List (Option Value)} {st' : List Value} (cd : List (Nat × Jvm.ClassFile.Instr × Nat)) (hcd : ∀ q ∈ cd, decode (am_mt C mi).2.1 q.1 = .ok (q.2.1, q.2.2)) (i k : Nat) (h : am_seg (am_mt C mi).2.2.1 ((cd.drop i).take k) pc L st = some (pc', L', st')) (kk : am_W l C x dep bc bs mi pc' L' st' S nn d Q) : am_W l C x dep bc bs mi pc L st S nn d Q :=
  am_seg_ok _ pc L st (fun q hq => hcd q (List.mem_of_mem_drop (List.mem_of_mem_take hq))) h kk
end
section
theorem am_if_eq {l : Launch} {C : am_Cfg} {x : am_X} {dep bc bs mi pc : Nat} {L : List (Option Value)} {st : List Value} {S : am_S} {nn : Nat} {d : am_D} {Q : Option Value → am_S → Nat → am_D → Prop} {u : Int32} {off : Int} (tgt : Nat) (hd : decode (am_mt C mi).2.1 pc = .ok (.ifCond .eq off, 3)) (ht : (pc : Int) + off = (tgt : Int)) (kt : u = 0 → am_W l C x dep bc bs mi tgt L st S nn d Q) (kf : ¬ u = 0 → am_W l C x dep bc bs mi (pc + 3) L st S nn d Q) : am_W l C x dep bc bs mi pc L (.int u :: st) S nn d Q := by
  intro p e s m args below meth c H locs cells slots mc ms ls hC
  have hx := hC.1.1
  have hb := hC.1.2.1
  exact lv_if_eq hx hb hd ht (fun h => kt h p e s m args below meth c H locs cells slots mc ms ls hC) (fun h => kf h p e s m args below meth c H locs cells slots mc ms ls hC)
theorem am_icmp_eq {l : Launch} {C : am_Cfg} {x : am_X} {dep bc bs mi pc : Nat} {L : List (Option Value)} {st : List Value} {S : am_S} {nn : Nat} {d : am_D} {Q : Option Value → am_S → Nat → am_D → Prop} {u v : Int32} {off : Int} (tgt : Nat) (hd : decode (am_mt C mi).2.1 pc = .ok (.if_icmp .eq off, 3)) (ht : (pc : Int) + off = (tgt : Int)) (kt : u = v → am_W l C x dep bc bs mi tgt L st S nn d Q) (kf : ¬ u = v → am_W l C x dep bc bs mi (pc + 3) L st S nn d Q) : am_W l C x dep bc bs mi pc L (.int v :: .int u :: st) S nn d Q := by
  intro p e s m args below meth c H locs cells slots mc ms ls hC
  have hx := hC.1.1
  have hb := hC.1.2.1
  exact lv_icmp_eq hx hb hd ht (fun h => kt h p e s m args below meth c H locs cells slots mc ms ls hC) (fun h => kf h p e s m args below meth c H locs cells slots mc ms ls hC)
theorem am_if_ne {l : Launch} {C : am_Cfg} {x : am_X} {dep bc bs mi pc : Nat} {L : List (Option Value)} {st : List Value} {S : am_S} {nn : Nat} {d : am_D} {Q : Option Value → am_S → Nat → am_D → Prop} {u : Int32} {off : Int} (tgt : Nat) (hd : decode (am_mt C mi).2.1 pc = .ok (.ifCond .ne off, 3)) (ht : (pc : Int) + off = (tgt : Int)) (kt : ¬ u = 0 → am_W l C x dep bc bs mi tgt L st S nn d Q) (kf : u = 0 → am_W l C x dep bc bs mi (pc + 3) L st S nn d Q) : am_W l C x dep bc bs mi pc L (.int u :: st) S nn d Q := by
  intro p e s m args below meth c H locs cells slots mc ms ls hC
  have hx := hC.1.1
  have hb := hC.1.2.1
  exact lv_if_ne hx hb hd ht (fun h => kt h p e s m args below meth c H locs cells slots mc ms ls hC) (fun h => kf h p e s m args below meth c H locs cells slots mc ms ls hC)
theorem am_icmp_ne {l : Launch} {C : am_Cfg} {x : am_X} {dep bc bs mi pc : Nat} {L : List (Option Value)} {st : List Value} {S : am_S} {nn : Nat} {d : am_D} {Q : Option Value → am_S → Nat → am_D → Prop} {u v : Int32} {off : Int} (tgt : Nat) (hd : decode (am_mt C mi).2.1 pc = .ok (.if_icmp .ne off, 3)) (ht : (pc : Int) + off = (tgt : Int)) (kt : ¬ u = v → am_W l C x dep bc bs mi tgt L st S nn d Q) (kf : u = v → am_W l C x dep bc bs mi (pc + 3) L st S nn d Q) : am_W l C x dep bc bs mi pc L (.int v :: .int u :: st) S nn d Q := by
  intro p e s m args below meth c H locs cells slots mc ms ls hC
  have hx := hC.1.1
  have hb := hC.1.2.1
  exact lv_icmp_ne hx hb hd ht (fun h => kt h p e s m args below meth c H locs cells slots mc ms ls hC) (fun h => kf h p e s m args below meth c H locs cells slots mc ms ls hC)
theorem am_if_lt {l : Launch} {C : am_Cfg} {x : am_X} {dep bc bs mi pc : Nat} {L : List (Option Value)} {st : List Value} {S : am_S} {nn : Nat} {d : am_D} {Q : Option Value → am_S → Nat → am_D → Prop} {u : Int32} {off : Int} (tgt : Nat) (hd : decode (am_mt C mi).2.1 pc = .ok (.ifCond .lt off, 3)) (ht : (pc : Int) + off = (tgt : Int)) (kt : u < 0 → am_W l C x dep bc bs mi tgt L st S nn d Q) (kf : ¬ u < 0 → am_W l C x dep bc bs mi (pc + 3) L st S nn d Q) : am_W l C x dep bc bs mi pc L (.int u :: st) S nn d Q := by
  intro p e s m args below meth c H locs cells slots mc ms ls hC
  have hx := hC.1.1
  have hb := hC.1.2.1
  exact lv_if_lt hx hb hd ht (fun h => kt h p e s m args below meth c H locs cells slots mc ms ls hC) (fun h => kf h p e s m args below meth c H locs cells slots mc ms ls hC)
theorem am_icmp_lt {l : Launch} {C : am_Cfg} {x : am_X} {dep bc bs mi pc : Nat} {L : List (Option Value)} {st : List Value} {S : am_S} {nn : Nat} {d : am_D} {Q : Option Value → am_S → Nat → am_D → Prop} {u v : Int32} {off : Int} (tgt : Nat) (hd : decode (am_mt C mi).2.1 pc = .ok (.if_icmp .lt off, 3)) (ht : (pc : Int) + off = (tgt : Int)) (kt : u < v → am_W l C x dep bc bs mi tgt L st S nn d Q) (kf : ¬ u < v → am_W l C x dep bc bs mi (pc + 3) L st S nn d Q) : am_W l C x dep bc bs mi pc L (.int v :: .int u :: st) S nn d Q := by
  intro p e s m args below meth c H locs cells slots mc ms ls hC
  have hx := hC.1.1
  have hb := hC.1.2.1
  exact lv_icmp_lt hx hb hd ht (fun h => kt h p e s m args below meth c H locs cells slots mc ms ls hC) (fun h => kf h p e s m args below meth c H locs cells slots mc ms ls hC)
theorem am_if_ge {l : Launch} {C : am_Cfg} {x : am_X} {dep bc bs mi pc : Nat} {L : List (Option Value)} {st : List Value} {S : am_S} {nn : Nat} {d : am_D} {Q : Option Value → am_S → Nat → am_D → Prop} {u : Int32} {off : Int} (tgt : Nat) (hd : decode (am_mt C mi).2.1 pc = .ok (.ifCond .ge off, 3)) (ht : (pc : Int) + off = (tgt : Int)) (kt : 0 ≤ u → am_W l C x dep bc bs mi tgt L st S nn d Q) (kf : ¬ 0 ≤ u → am_W l C x dep bc bs mi (pc + 3) L st S nn d Q) : am_W l C x dep bc bs mi pc L (.int u :: st) S nn d Q := by
  intro p e s m args below meth c H locs cells slots mc ms ls hC
  have hx := hC.1.1
  have hb := hC.1.2.1
  exact lv_if_ge hx hb hd ht (fun h => kt h p e s m args below meth c H locs cells slots mc ms ls hC) (fun h => kf h p e s m args below meth c H locs cells slots mc ms ls hC)
theorem am_icmp_ge {l : Launch} {C : am_Cfg} {x : am_X} {dep bc bs mi pc : Nat} {L : List (Option Value)} {st : List Value} {S : am_S} {nn : Nat} {d : am_D} {Q : Option Value → am_S → Nat → am_D → Prop} {u v : Int32} {off : Int} (tgt : Nat) (hd : decode (am_mt C mi).2.1 pc = .ok (.if_icmp .ge off, 3)) (ht : (pc : Int) + off = (tgt : Int)) (kt : v ≤ u → am_W l C x dep bc bs mi tgt L st S nn d Q) (kf : ¬ v ≤ u → am_W l C x dep bc bs mi (pc + 3) L st S nn d Q) : am_W l C x dep bc bs mi pc L (.int v :: .int u :: st) S nn d Q := by
  intro p e s m args below meth c H locs cells slots mc ms ls hC
  have hx := hC.1.1
  have hb := hC.1.2.1
  exact lv_icmp_ge hx hb hd ht (fun h => kt h p e s m args below meth c H locs cells slots mc ms ls hC) (fun h => kf h p e s m args below meth c H locs cells slots mc ms ls hC)
theorem am_if_gt {l : Launch} {C : am_Cfg} {x : am_X} {dep bc bs mi pc : Nat} {L : List (Option Value)} {st : List Value} {S : am_S} {nn : Nat} {d : am_D} {Q : Option Value → am_S → Nat → am_D → Prop} {u : Int32} {off : Int} (tgt : Nat) (hd : decode (am_mt C mi).2.1 pc = .ok (.ifCond .gt off, 3)) (ht : (pc : Int) + off = (tgt : Int)) (kt : 0 < u → am_W l C x dep bc bs mi tgt L st S nn d Q) (kf : ¬ 0 < u → am_W l C x dep bc bs mi (pc + 3) L st S nn d Q) : am_W l C x dep bc bs mi pc L (.int u :: st) S nn d Q := by
  intro p e s m args below meth c H locs cells slots mc ms ls hC
  have hx := hC.1.1
  have hb := hC.1.2.1
  exact lv_if_gt hx hb hd ht (fun h => kt h p e s m args below meth c H locs cells slots mc ms ls hC) (fun h => kf h p e s m args below meth c H locs cells slots mc ms ls hC)
theorem am_icmp_gt {l : Launch} {C : am_Cfg} {x : am_X} {dep bc bs mi pc : Nat} {L : List (Option Value)} {st : List Value} {S : am_S} {nn : Nat} {d : am_D} {Q : Option Value → am_S → Nat → am_D → Prop} {u v : Int32} {off : Int} (tgt : Nat) (hd : decode (am_mt C mi).2.1 pc = .ok (.if_icmp .gt off, 3)) (ht : (pc : Int) + off = (tgt : Int)) (kt : v < u → am_W l C x dep bc bs mi tgt L st S nn d Q) (kf : ¬ v < u → am_W l C x dep bc bs mi (pc + 3) L st S nn d Q) : am_W l C x dep bc bs mi pc L (.int v :: .int u :: st) S nn d Q := by
  intro p e s m args below meth c H locs cells slots mc ms ls hC
  have hx := hC.1.1
  have hb := hC.1.2.1
  exact lv_icmp_gt hx hb hd ht (fun h => kt h p e s m args below meth c H locs cells slots mc ms ls hC) (fun h => kf h p e s m args below meth c H locs cells slots mc ms ls hC)
theorem am_if_le {l : Launch} {C : am_Cfg} {x : am_X} {dep bc bs mi pc : Nat} {L : List (Option Value)} {st : List Value} {S : am_S} {nn : Nat} {d : am_D} {Q : Option Value → am_S → Nat → am_D → Prop} {u : Int32} {off : Int} (tgt : Nat) (hd : decode (am_mt C mi).2.1 pc = .ok (.ifCond .le off, 3)) (ht : (pc : Int) + off = (tgt : Int)) (kt : u ≤ 0 → am_W l C x dep bc bs mi tgt L st S nn d Q) (kf : ¬ u ≤ 0 → am_W l C x dep bc bs mi (pc + 3) L st S nn d Q) : am_W l C x dep bc bs mi pc L (.int u :: st) S nn d Q := by
  intro p e s m args below meth c H locs cells slots mc ms ls hC
  have hx := hC.1.1
  have hb := hC.1.2.1
  exact lv_if_le hx hb hd ht (fun h => kt h p e s m args below meth c H locs cells slots mc ms ls hC) (fun h => kf h p e s m args below meth c H locs cells slots mc ms ls hC)
theorem am_icmp_le {l : Launch} {C : am_Cfg} {x : am_X} {dep bc bs mi pc : Nat} {L : List (Option Value)} {st : List Value} {S : am_S} {nn : Nat} {d : am_D} {Q : Option Value → am_S → Nat → am_D → Prop} {u v : Int32} {off : Int} (tgt : Nat) (hd : decode (am_mt C mi).2.1 pc = .ok (.if_icmp .le off, 3)) (ht : (pc : Int) + off = (tgt : Int)) (kt : u ≤ v → am_W l C x dep bc bs mi tgt L st S nn d Q) (kf : ¬ u ≤ v → am_W l C x dep bc bs mi (pc + 3) L st S nn d Q) : am_W l C x dep bc bs mi pc L (.int v :: .int u :: st) S nn d Q := by
  intro p e s m args below meth c H locs cells slots mc ms ls hC
  have hx := hC.1.1
  have hb := hC.1.2.1
  exact lv_icmp_le hx hb hd ht (fun h => kt h p e s m args below meth c H locs cells slots mc ms ls hC) (fun h => kf h p e s m args below meth c H locs cells slots mc ms ls hC)
theorem am_idiv {l : Launch} {C : am_Cfg} {x : am_X} {dep bc bs mi pc : Nat} {L : List (Option Value)} {st : List Value} {S : am_S} {nn : Nat} {d : am_D} {Q : Option Value → am_S → Nat → am_D → Prop} {u v : Int32} (hd : decode (am_mt C mi).2.1 pc = .ok (.idiv, 1)) (h0 : ¬ v = 0) (kk : am_W l C x dep bc bs mi (pc + 1) L (.int (u / v) :: st) S nn d Q) : am_W l C x dep bc bs mi pc L (.int v :: .int u :: st) S nn d Q := by
  intro p e s m args below meth c H locs cells slots mc ms ls hC
  have hx := hC.1.1
  have hb := hC.1.2.1
  exact lv_idiv hx hb hd h0 (kk p e s m args below meth c H locs cells slots mc ms ls hC)
theorem am_irem {l : Launch} {C : am_Cfg} {x : am_X} {dep bc bs mi pc : Nat} {L : List (Option Value)} {st : List Value} {S : am_S} {nn : Nat} {d : am_D} {Q : Option Value → am_S → Nat → am_D → Prop} {u v : Int32} (hd : decode (am_mt C mi).2.1 pc = .ok (.irem, 1)) (h0 : ¬ v = 0) (kk : am_W l C x dep bc bs mi (pc + 1) L (.int (u - u / v * v) :: st) S nn d Q) : am_W l C x dep bc bs mi pc L (.int v :: .int u :: st) S nn d Q := by
  intro p e s m args below meth c H locs cells slots mc ms ls hC
  have hx := hC.1.1
  have hb := hC.1.2.1
  exact lv_irem hx hb hd h0 (kk p e s m args below meth c H locs cells slots mc ms ls hC)
theorem am_ldc {l : Launch} {C : am_Cfg} {x : am_X} {dep bc bs mi pc : Nat} {L : List (Option Value)} {st : List Value} {S : am_S} {nn : Nat} {d : am_D} {Q : Option Value → am_S → Nat → am_D → Prop} {idx : Nat} (v : Int32) (hd : decode (am_mt C mi).2.1 pc = .ok (.ldc idx, 2)) (hw : Cond.constant (am_mt C mi).1.cls idx v ∈ am_ts C) (kk : am_W l C x dep bc bs mi (pc + 2) L (.int v :: st) S nn d Q) : am_W l C x dep bc bs mi pc L st S nn d Q := by
  intro p e s m args below meth c H locs cells slots mc ms ls hC
  have hx := hC.1.1
  have hb := hC.1.2.1
  exact lv_ldc hx hb hC.1.2.2.2.2.2.2.1 (hC.1.2.2.2.2.2.2.2.1 _ hw) hd (kk p e s m args below meth c H locs cells slots mc ms ls hC)
theorem am_tableIn {l : Launch} {C : am_Cfg} {x : am_X} {dep bc bs mi pc : Nat} {L : List (Option Value)} {st : List Value} {S : am_S} {nn : Nat} {d : am_D} {Q : Option Value → am_S → Nat → am_D → Prop} {dflt lo hi off : Int} {offs : Array Int} {len : Nat} {u : Int32} (tgt : Nat) (hd : decode (am_mt C mi).2.1 pc = .ok (.tableswitch dflt lo hi offs, len)) (h1 : ¬ u.toInt < lo) (h2 : ¬ hi < u.toInt) (ho : offs[(u.toInt - lo).toNat]? = some off) (ht : (pc : Int) + off = (tgt : Int)) (kk : am_W l C x dep bc bs mi tgt L st S nn d Q) : am_W l C x dep bc bs mi pc L (.int u :: st) S nn d Q := by
  intro p e s m args below meth c H locs cells slots mc ms ls hC
  have hx := hC.1.1
  have hb := hC.1.2.1
  exact lv_tableIn hx hb hd h1 h2 ho ht (kk p e s m args below meth c H locs cells slots mc ms ls hC)
theorem am_tableOut {l : Launch} {C : am_Cfg} {x : am_X} {dep bc bs mi pc : Nat} {L : List (Option Value)} {st : List Value} {S : am_S} {nn : Nat} {d : am_D} {Q : Option Value → am_S → Nat → am_D → Prop} {dflt lo hi : Int} {offs : Array Int} {len : Nat} {u : Int32} (tgt : Nat) (hd : decode (am_mt C mi).2.1 pc = .ok (.tableswitch dflt lo hi offs, len)) (h : u.toInt < lo ∨ hi < u.toInt) (ht : (pc : Int) + dflt = (tgt : Int)) (kk : am_W l C x dep bc bs mi tgt L st S nn d Q) : am_W l C x dep bc bs mi pc L (.int u :: st) S nn d Q := by
  intro p e s m args below meth c H locs cells slots mc ms ls hC
  have hx := hC.1.1
  have hb := hC.1.2.1
  exact lv_tableOut hx hb hd h ht (kk p e s m args below meth c H locs cells slots mc ms ls hC)
theorem am_own_0 {C : am_Cfg} {x : am_X} {S : am_S} {d : am_D} {U : State} {H : Heap} {a : Nat} (hk : (S a).1 = 0) : am_own C x S d U H a ↔ ∃ cA, H[am_ad x a]? = some (arrV cA (S a).2.1 (fun j => .int (d a j))) ∧ ArrOfT U cA .int := by
  unfold am_own; rw [hk]
theorem am_own_1 {C : am_Cfg} {x : am_X} {S : am_S} {d : am_D} {U : State} {H : Heap} {a : Nat} (hk : (S a).1 = 1) : am_own C x S d U H a ↔ ∃ cA, H[am_ad x a]? = some (arrV cA (S a).2.1 (fun j => .int (d a j))) ∧ ArrOfT U cA .char := by
  unfold am_own; rw [hk]
theorem am_own_2 {C : am_Cfg} {x : am_X} {S : am_S} {d : am_D} {U : State} {H : Heap} {a : Nat} (hk : (S a).1 = 2) : am_own C x S d U H a ↔ ∃ cA, H[am_ad x a]? = some (arrV cA (S a).2.1 (fun j => va_rf (((S a).2.2 j).map (am_ad x)))) ∧ ArrOfT U cA (.array .int) := by
  unfold am_own; rw [hk]
theorem am_own_3 {C : am_Cfg} {x : am_X} {S : am_S} {d : am_D} {U : State} {H : Heap} {a : Nat} {ci : Nat} (hk : (S a).1 = ci + 3) : am_own C x S d U H a ↔ ∃ r : vw_C, (am_cl C)[ci]? = some r ∧ (S a).2.1 = r.2.2 ∧ t_OB (am_ad x a) ((am_dg x).1 ci) r.2.2 ((am_dg x).2 ci) H (am_val C (am_ad x) S d a) := by
  unfold am_own; rw [hk]
theorem am_inj {x : am_X} {a b : Nat} (h1 : ∀ k, k < 1000 → am_ad x k = am_sz x + k) (h2 : ∀ k, 1000 ≤ k → am_ad x k < am_sz x) (ha : a < 1000) (hab : b ≠ a) : am_ad x b ≠ am_ad x a := by
  by_cases hb : b < 1000
  · rw [h1 a ha, h1 b hb]; omega
  · have := h2 b (by omega)
    rw [h1 a ha]; omega
theorem am_H.put {C : am_Cfg} {x : am_X} {S S' : am_S} {n : Nat} {d d' : am_D} {U : State} {H H' : Heap} {a : Nat} (hF : am_F C x U) (h : am_H C x S n d U H) (ha : a < n) (e2 : H'.size = H.size) (e3 : ∀ q, q ≠ am_ad x a → H'[q]? = H[q]?) (hS : ∀ b, b ≠ a → S' b = S b) (hd : ∀ b, b ≠ a → d' b = d b) (hc : am_own C x S' d' U H' a) : am_H C x S' n d' U H' := by
  obtain ⟨h1, h2, h3⟩ := h
  refine ⟨fun b hb => ?_, e2.trans h2, h3⟩
  by_cases e : b = a
  · subst e
    exact ⟨fun z => by omega, fun _ => hc⟩
  · exact ((h1 b hb).kept (e3 _ (am_inj hF.2.2.2.2.1 hF.2.2.2.2.2 (by omega) e))).same (hS b e) (hd b e)
def am_u (d : am_D) (a j : Nat) (v : Int32) : am_D := fun b k => if b = a ∧ k = j then v else d b k
theorem am_u_ne {d : am_D} {a j : Nat} {v : Int32} (b : Nat) (h : b ≠ a) : am_u d a j v b = d b := by
  funext k; unfold am_u; rw [if_neg (fun z => h z.1)]
theorem am_u_self {d : am_D} {a j : Nat} {v : Int32} : am_u d a j v a = upd (d a) j v := by
  funext k; unfold am_u upd; by_cases h : k = j <;> simp [h]
theorem am_u_V (d : am_D) (a j : Nat) (v : Int32) : updV (fun k => Value.int (d a k)) j (.int v) = fun k => Value.int (am_u d a j v a k) := by
  funext k; unfold updV am_u; by_cases h : k = j <;> simp [h]

theorem am_iaload {l : Launch} {C : am_Cfg} {x : am_X} {dep bc bs mi pc : Nat} {L : List (Option Value)} {st : List Value} {S : am_S} {nn : Nat} {d : am_D} {Q : Option Value → am_S → Nat → am_D → Prop} {a : Nat} {i : Int32} (j : Nat) (hd : decode (am_mt C mi).2.1 pc = .ok (.iaload, 1)) (hk : (S a).1 = 0) (ha : a < nn ∨ (1000 ≤ a ∧ a < 1002)) (hi : i = nI j) (hj : j < (S a).2.1) (hm : (S a).2.1 < 2147483648) (kk : am_W l C x dep bc bs mi (pc + 1) L (.int (d a j) :: st) S nn d Q) : am_W l C x dep bc bs mi pc L (.int i :: .ref a :: st) S nn d Q := by
  intro p e s m args below meth c H locs cells slots mc ms ls hC
  have hx := hC.1.1
  have hb := hC.1.2.1
  subst hi
  have hin := vp_in_nI hj (by omega : (S a).2.1 < 2 ^ 31)
  have hcl : (nI j).toNatClampNeg = j := nI_clamp (by omega)
  have hcell := hC.2.1.1 a ha
  by_cases hb1 : 1000 ≤ a
  · obtain ⟨-, scr, h1, h2, h3, h4, h5⟩ := hcell.1 hb1
    exact W.iald (v := .int (d a j)) hx hb h1 h2 h3 (by rw [h4]; exact hin) (by rw [hcl]; exact h5 j hj) rfl rfl hd (kk p e s m args below meth c H locs cells slots mc ms ls hC)
  · obtain ⟨cA, h1, h2⟩ := (am_own_0 hk).mp (hcell.2 (by omega))
    exact W.iald (v := .int (d a j)) hx hb h1 (h2 _ _) (fun q => by cases q) (by rw [arrV_size]; exact hin) (by rw [hcl, arrV_read _ _ hj]) rfl rfl hd (kk p e s m args below meth c H locs cells slots mc ms ls hC)
theorem am_caload {l : Launch} {C : am_Cfg} {x : am_X} {dep bc bs mi pc : Nat} {L : List (Option Value)} {st : List Value} {S : am_S} {nn : Nat} {d : am_D} {Q : Option Value → am_S → Nat → am_D → Prop} {a : Nat} {i : Int32} (j : Nat) (hd : decode (am_mt C mi).2.1 pc = .ok (.caload, 1)) (hk : (S a).1 = 1) (ha : a < nn) (hi : i = nI j) (hj : j < (S a).2.1) (hm : (S a).2.1 < 2147483648) (kk : am_W l C x dep bc bs mi (pc + 1) L (.int (d a j) :: st) S nn d Q) : am_W l C x dep bc bs mi pc L (.int i :: .ref a :: st) S nn d Q := by
  intro p e s m args below meth c H locs cells slots mc ms ls hC
  have hx := hC.1.1
  have hb := hC.1.2.1
  subst hi
  have hin := vp_in_nI hj (by omega : (S a).2.1 < 2 ^ 31)
  have hcl : (nI j).toNatClampNeg = j := nI_clamp (by omega)
  have hn := hC.2.1.2.2
  obtain ⟨cA, h1, h2⟩ := (am_own_1 hk).mp ((hC.2.1.1 a (Or.inl ha)).2 (by omega))
  exact W.cald (v := .int (d a j)) hx hb h1 (h2 _ _) (fun q => by cases q) (by rw [arrV_size]; exact hin) (by rw [hcl, arrV_read _ _ hj]) rfl rfl hd (kk p e s m args below meth c H locs cells slots mc ms ls hC)
theorem am_aaload {l : Launch} {C : am_Cfg} {x : am_X} {dep bc bs mi pc : Nat} {L : List (Option Value)} {st : List Value} {S : am_S} {nn : Nat} {d : am_D} {Q : Option Value → am_S → Nat → am_D → Prop} {a : Nat} {i : Int32} (j r : Nat) (hd : decode (am_mt C mi).2.1 pc = .ok (.aaload, 1)) (hk : (S a).1 = 2) (ha : a < nn) (hi : i = nI j) (hj : j < (S a).2.1) (hm : (S a).2.1 < 2147483648) (hr : (S a).2.2 j = some r) (kk : am_W l C x dep bc bs mi (pc + 1) L (.ref r :: st) S nn d Q) : am_W l C x dep bc bs mi pc L (.int i :: .ref a :: st) S nn d Q := by
  intro p e s m args below meth c H locs cells slots mc ms ls hC
  have hx := hC.1.1
  have hb := hC.1.2.1
  subst hi
  have hin := vp_in_nI hj (by omega : (S a).2.1 < 2 ^ 31)
  have hcl : (nI j).toNatClampNeg = j := nI_clamp (by omega)
  have hn := hC.2.1.2.2
  obtain ⟨cA, h1, h2⟩ := (am_own_2 hk).mp ((hC.2.1.1 a (Or.inl ha)).2 (by omega))
  exact W.aald (v := .ref (am_ad x r)) hx hb h1 (h2 _ _) rfl (fun q => by cases q) (by rw [arrV_size]; exact hin) (by rw [hcl, arrV_read _ _ hj, hr]; rfl) rfl rfl hd (kk p e s m args below meth c H locs cells slots mc ms ls hC)
theorem am_alen {l : Launch} {C : am_Cfg} {x : am_X} {dep bc bs mi pc : Nat} {L : List (Option Value)} {st : List Value} {S : am_S} {nn : Nat} {d : am_D} {Q : Option Value → am_S → Nat → am_D → Prop} {a : Nat} {v : Int32} (hd : decode (am_mt C mi).2.1 pc = .ok (.arraylength, 1)) (hk : (S a).1 = 0) (ha : a < nn ∨ (1000 ≤ a ∧ a < 1002)) (hv : v = nI (S a).2.1) (kk : am_W l C x dep bc bs mi (pc + 1) L (.int v :: st) S nn d Q) : am_W l C x dep bc bs mi pc L (.ref a :: st) S nn d Q := by
  intro p e s m args below meth c H locs cells slots mc ms ls hC
  have hx := hC.1.1
  have hb := hC.1.2.1
  subst hv
  have hcell := hC.2.1.1 a ha
  by_cases hb1 : 1000 ≤ a
  · obtain ⟨-, scr, h1, h2, h3, h4, h5⟩ := hcell.1 hb1
    exact W.alen hx hb h1 h2 (by rw [h4]; rfl) rfl rfl hd (kk p e s m args below meth c H locs cells slots mc ms ls hC)
  · obtain ⟨cA, h1, h2⟩ := (am_own_0 hk).mp (hcell.2 (by omega))
    exact W.alen hx hb h1 (h2 _ _) (by rw [arrV_size]; rfl) rfl rfl hd (kk p e s m args below meth c H locs cells slots mc ms ls hC)
theorem am_iastore {l : Launch} {C : am_Cfg} {x : am_X} {dep bc bs mi pc : Nat} {L : List (Option Value)} {st : List Value} {S : am_S} {nn : Nat} {d : am_D} {Q : Option Value → am_S → Nat → am_D → Prop} {a : Nat} {i v : Int32} (j : Nat) (hd : decode (am_mt C mi).2.1 pc = .ok (.iastore, 1)) (hk : (S a).1 = 0) (ha : a < nn) (hi : i = nI j) (hj : j < (S a).2.1) (hm : (S a).2.1 < 2147483648) (kk : am_W l C x dep bc bs mi (pc + 1) L st S nn (am_u d a j v) Q) : am_W l C x dep bc bs mi pc L (.int v :: .int i :: .ref a :: st) S nn d Q := by
  intro p e s m args below meth c H locs cells slots mc ms ls hC
  have hx := hC.1.1
  have hb := hC.1.2.1
  subst hi
  have hin := vp_in_nI hj (by omega : (S a).2.1 < 2 ^ 31)
  have hcl : (nI j).toNatClampNeg = j := nI_clamp (by omega)
  obtain ⟨hC1, hH, hS, hbc, hbs, hL⟩ := hC
  have hF := hC1.2.2.2.2.2.2.2.2
  have hn := hH.2.2
  obtain ⟨cA, h1, h2⟩ := (am_own_0 hk).mp ((hH.1 a (Or.inl ha)).2 (by omega))
  refine W.iast hx hb h1 (h2 _ _) (fun q => by cases q) (by rw [arrV_size]; exact hin) rfl rfl hd fun H' e1 e2 e3 => ?_
  rw [hcl] at e1 ⊢
  refine kk p e s m args below meth c H' _ cells slots mc ms ls ⟨hC1, am_H.put hF hH ha e2 e3 (fun _ _ => rfl) am_u_ne ((am_own_0 hk).mpr ⟨cA, ?_, h2⟩), hS.put e2 e3 ?_, hbc, hbs, hL⟩
  · rw [e1, arrV_store]
    have e4 := am_u_V d a j v
    first
      | rw [e4]
      | (have e5 : narrow .char (.int v) = .int v := rfl
         rw [e5, e4])
  · show am_sz x ≤ am_ad x a
    rw [hF.2.2.2.2.1 a (by omega)]; omega
theorem am_castore {l : Launch} {C : am_Cfg} {x : am_X} {dep bc bs mi pc : Nat} {L : List (Option Value)} {st : List Value} {S : am_S} {nn : Nat} {d : am_D} {Q : Option Value → am_S → Nat → am_D → Prop} {a : Nat} {i v : Int32} (j : Nat) (hd : decode (am_mt C mi).2.1 pc = .ok (.castore, 1)) (hk : (S a).1 = 1) (ha : a < nn) (hi : i = nI j) (hj : j < (S a).2.1) (hm : (S a).2.1 < 2147483648) (kk : am_W l C x dep bc bs mi (pc + 1) L st S nn (am_u d a j (vp_nar .char v)) Q) : am_W l C x dep bc bs mi pc L (.int v :: .int i :: .ref a :: st) S nn d Q := by
  intro p e s m args below meth c H locs cells slots mc ms ls hC
  have hx := hC.1.1
  have hb := hC.1.2.1
  subst hi
  have hin := vp_in_nI hj (by omega : (S a).2.1 < 2 ^ 31)
  have hcl : (nI j).toNatClampNeg = j := nI_clamp (by omega)
  obtain ⟨hC1, hH, hS, hbc, hbs, hL⟩ := hC
  have hF := hC1.2.2.2.2.2.2.2.2
  have hn := hH.2.2
  obtain ⟨cA, h1, h2⟩ := (am_own_1 hk).mp ((hH.1 a (Or.inl ha)).2 (by omega))
  refine W.cast hx hb h1 (h2 _ _) (fun q => by cases q) (by rw [arrV_size]; exact hin) rfl rfl hd fun H' e1 e2 e3 => ?_
  rw [hcl] at e1 ⊢
  refine kk p e s m args below meth c H' _ cells slots mc ms ls ⟨hC1, am_H.put hF hH ha e2 e3 (fun _ _ => rfl) am_u_ne ((am_own_1 hk).mpr ⟨cA, ?_, h2⟩), hS.put e2 e3 ?_, hbc, hbs, hL⟩
  · rw [e1, arrV_store]
    have e4 := am_u_V d a j (vp_nar .char v)
    first
      | rw [e4]
      | (have e5 : narrow .char (.int v) = .int (vp_nar .char v) := rfl
         rw [e5, e4])
  · show am_sz x ≤ am_ad x a
    rw [hF.2.2.2.2.1 a (by omega)]; omega
def am_va (C : am_Cfg) (S : am_S) (d : am_D) (a j : Nat) : Value := if am_rf C ((S a).1 - 3) j = true then va_rf ((S a).2.2 j) else .int (d a j)
theorem am_va_up (C : am_Cfg) (ad : Nat → Nat) (S : am_S) (d : am_D) (a j : Nat) : am_val C ad S d a j = am_up ad (am_va C S d a j) := by
  unfold am_val am_va
  split
  · cases (S a).2.2 j <;> rfl
  · rfl
def am_fl (C : am_Cfg) (own : String) (idx : Nat) (t : String × String × String × Bool) : Prop := Cond.fieldLink own idx t.1 t.2.1 t.2.2.1 ∈ am_ts C ∨ ∃ host, Cond.fieldLinkNest own idx t.1 t.2.1 t.2.2.1 host ∈ am_ns C
/-- a class's words, types and names -/
def am_clok (C : am_Cfg) (r : vw_C) (ty0 : Nat → FieldType) : Prop := (∀ w ∈ u_ws r.1 r.2.1 r.2.2, w ∈ am_ts C) ∧ (∀ k, k < r.2.2 → parseFieldDescriptor (r.2.1 k).2.2.1 = some (ty0 k)) ∧ (∀ a, a < r.2.2 → ∀ b, b < r.2.2 → a ≠ b → (r.2.1 a).2.1 ≠ (r.2.1 b).2.1)

theorem am_getf {l : Launch} {C : am_Cfg} {x : am_X} {dep bc bs mi pc : Nat} {L : List (Option Value)} {st : List Value} {S : am_S} {nn : Nat} {d : am_D} {Q : Option Value → am_S → Nat → am_D → Prop} {a idx : Nat} {v : Value} {ty0 : Nat → FieldType} (ci k : Nat) (r : vw_C) (hd : decode (am_mt C mi).2.1 pc = .ok (.getfield idx, 3)) (hk : (S a).1 = ci + 3) (ha : a < nn) (hr : (am_cl C)[ci]? = some r) (hkN : k < r.2.2) (hok : am_clok C r ty0) (hl : am_fl C (am_mt C mi).1.cls idx (r.2.1 k)) (hv : am_va C S d a k = v) (kk : am_W l C x dep bc bs mi (pc + 3) L (v :: st) S nn d Q) : am_W l C x dep bc bs mi pc L (.ref a :: st) S nn d Q := by
  intro p e s m args below meth c H locs cells slots mc ms ls hC
  have hx := hC.1.1
  have hb := hC.1.2.1
  have hts := hC.1.2.2.2.2.2.2.2.1
  have hown := hC.1.2.2.2.2.2.2.1
  have hF := hC.1.2.2.2.2.2.2.2.2
  have hn := hC.2.1.2.2
  obtain ⟨r', h1, hN, cell, q1, q2, q3, q4⟩ := (am_own_3 hk).mp ((hC.2.1.1 a (Or.inl ha)).2 (by omega))
  cases hr.symm.trans h1
  obtain ⟨hSl, hfc, kC, hkC, hkind⟩ := hF.1.1 ci _ hr
  obtain ⟨cf, kf, fi, f, hi, hsl⟩ := hSl k hkN
  have hst := (u_facts hfc hkC (u_lays hts hok.1 hkN) hi).1
  have hval : cell.slots[f.slot]? = some (am_up (am_ad x) v) := by rw [hsl, q4 k hkN, am_va_up, hv]
  have hkn : cell.vm ≠ .unknown := by rw [q3]; exact fun h => by cases h
  rcases hl with hl | ⟨host, hl⟩
  · exact W.getf hx hb hown (hts _ hl) hi hst q1 hkn hval rfl rfl hd (kk p e s m args below meth c H locs cells slots mc ms ls hC)
  · exact va_Wgetf hx hb hown (va_Nw.use rfl (hF.2.1 _ hl)) hi hst q1 hkn hval rfl rfl hd (kk p e s m args below meth c H locs cells slots mc ms ls hC)
theorem am_putI {l : Launch} {C : am_Cfg} {x : am_X} {dep bc bs mi pc : Nat} {L : List (Option Value)} {st : List Value} {S : am_S} {nn : Nat} {d : am_D} {Q : Option Value → am_S → Nat → am_D → Prop} {a idx : Nat} {v : Int32} {ty0 : Nat → FieldType} (ci k : Nat) (r : vw_C) (hd : decode (am_mt C mi).2.1 pc = .ok (.putfield idx, 3)) (hk : (S a).1 = ci + 3) (ha : a < nn) (hr : (am_cl C)[ci]? = some r) (hkN : k < r.2.2) (hok : am_clok C r ty0) (hl : Cond.fieldLink (am_mt C mi).1.cls idx (r.2.1 k).1 (r.2.1 k).2.1 (r.2.1 k).2.2.1 ∈ am_ts C) (hfin : (r.2.1 k).2.2.2 = false) (hrf : am_rf C ci k = false) (hnar : narrow (ty0 k) (.int v) = .int v) (hfit : fits (ty0 k) (.int v) = true) (kk : am_W l C x dep bc bs mi (pc + 3) L st S nn (am_u d a k v) Q) : am_W l C x dep bc bs mi pc L (.int v :: .ref a :: st) S nn d Q := by
  intro p e s m args below meth c H locs cells slots mc ms ls hC
  have hx := hC.1.1
  have hb := hC.1.2.1
  obtain ⟨hC1, hH, hS, hbc, hbs, hL⟩ := hC
  have hts := hC1.2.2.2.2.2.2.2.1
  have hown := hC1.2.2.2.2.2.2.1
  have hF := hC1.2.2.2.2.2.2.2.2
  have hn := hH.2.2
  have hap := va_apart (own := (am_mt C mi).1.cls) hts hok.1 ty0 hok.2.1 hok.2.2 hF.1 hr
  obtain ⟨r', h1, hN, cell, q1, q2, q3, q4⟩ := (am_own_3 hk).mp ((hH.1 a (Or.inl ha)).2 (by omega))
  cases hr.symm.trans h1
  obtain ⟨hSl, hfc, kC, hkC, hkind⟩ := hF.1.1 ci _ hr
  obtain ⟨cf, kf, fi, f, hi, hsl⟩ := hSl k hkN
  have hlay := hts _ (hok.1 _ (u_in_lay hkN))
  unfold u_lay at hlay
  rw [if_neg (by rw [hfin]; decide)] at hlay
  have hst := (u_facts hfc hkC (u_lays hts hok.1 hkN) hi).1
  have h6 := u_store hfc hkC hkind hlay hi (hok.2.1 k hkN) hnar hfit
  refine W.putK hx hb (f := f) ⟨hown, hts _ hl, ⟨_, _, _, hi⟩, hst⟩ (by rw [q2]; exact h6) q1 q3 (by rw [hsl]; exact k2_hasslot (q4 k hkN)) rfl rfl hd fun H' e1 e2 e3 => ?_
  rw [hsl] at e1 ⊢
  refine kk p e s m args below meth c H' _ cells slots mc ms ls ⟨hC1, am_H.put hF hH ha e2 e3 (fun _ _ => rfl) am_u_ne ((am_own_3 hk).mpr ⟨r, hr, hN, t_OB.to (V := updV (am_val C (am_ad x) S d a) k (.int v)) ⟨_, e1, q2, q3, t_set q4 hap hkN (.int v)⟩ (fun j _ => ?_)⟩), hS.put e2 e3 ?_, hbc, hbs, hL⟩
  · unfold updV am_val am_u
    rw [hk]
    by_cases hjk : j = k
    · subst hjk; simp [hrf]
    · simp [hjk]
  · show am_sz x ≤ am_ad x a
    rw [hF.2.2.2.2.1 a (by omega)]; omega
def am_r (S : am_S) (a j r : Nat) : am_S := fun b => if b = a then ((S a).1, (S a).2.1, fun k => if k = j then some r else (S a).2.2 k) else S b
theorem am_r_ne {S : am_S} {a j r : Nat} (b : Nat) (h : b ≠ a) : am_r S a j r b = S b := by unfold am_r; rw [if_neg h]
theorem am_r_self {S : am_S} {a j r : Nat} : am_r S a j r a = ((S a).1, (S a).2.1, fun k => if k = j then some r else (S a).2.2 k) := by unfold am_r; rw [if_pos rfl]
theorem am_putR {l : Launch} {C : am_Cfg} {x : am_X} {dep bc bs mi pc : Nat} {L : List (Option Value)} {st : List Value} {S : am_S} {nn : Nat} {d : am_D} {Q : Option Value → am_S → Nat → am_D → Prop} {a idx b : Nat} {ty0 : Nat → FieldType} (ci k : Nat) (r : vw_C) (hd : decode (am_mt C mi).2.1 pc = .ok (.putfield idx, 3)) (hk : (S a).1 = ci + 3) (ha : a < nn) (hr : (am_cl C)[ci]? = some r) (hkN : k < r.2.2) (hok : am_clok C r ty0) (hl : Cond.fieldLink (am_mt C mi).1.cls idx (r.2.1 k).1 (r.2.1 k).2.1 (r.2.1 k).2.2.1 ∈ am_ts C) (hfin : (r.2.1 k).2.2.2 = true) (hin : (am_mt C mi).1.name = "<init>") (hdecl : (r.2.1 k).1 = (am_mt C mi).1.cls) (hrf : am_rf C ci k = true) (hnar : narrow (ty0 k) (.ref (am_ad x b)) = .ref (am_ad x b)) (hfit : fits (ty0 k) (.ref (am_ad x b)) = true) (kk : am_W l C x dep bc bs mi (pc + 3) L st (am_r S a k b) nn d Q) : am_W l C x dep bc bs mi pc L (.ref b :: .ref a :: st) S nn d Q := by
  intro p e s m args below meth c H locs cells slots mc ms ls hC
  have hx := hC.1.1
  have hb := hC.1.2.1
  obtain ⟨hC1, hH, hS, hbc, hbs, hL⟩ := hC
  have hts := hC1.2.2.2.2.2.2.2.1
  have hown := hC1.2.2.2.2.2.2.1
  have hnm := hC1.2.2.2.2.2.1
  have hF := hC1.2.2.2.2.2.2.2.2
  have hn := hH.2.2
  have hap := va_apart (own := (am_mt C mi).1.cls) hts hok.1 ty0 hok.2.1 hok.2.2 hF.1 hr
  obtain ⟨r', h1, hN, cell, q1, q2, q3, q4⟩ := (am_own_3 hk).mp ((hH.1 a (Or.inl ha)).2 (by omega))
  cases hr.symm.trans h1
  obtain ⟨hSl, hfc, kC, hkC, hkind⟩ := hF.1.1 ci _ hr
  obtain ⟨cf, kf, fi, f, hi, hsl⟩ := hSl k hkN
  have hlay := hts _ (hok.1 _ (u_in_lay hkN))
  unfold u_lay at hlay
  rw [if_pos hfin] at hlay
  have hst := (u_facts hfc hkC (u_lays hts hok.1 hkN) hi).1
  have hcf : m.cls = cf := by
    obtain ⟨_, _, c', _, _, _, -, -, hf', -, -, -, hown2, -⟩ := Cond.laysFinal_spec hlay
    have e1 : c' = cf := by have := hi.symm.trans hf'; simp at this; exact this.1.symm
    rw [hdecl] at hown2
    rw [← e1]; exact Option.some.inj (hown.symm.trans hown2)
  have h6 := u_fits hfc hkC hkind (Or.inr hlay) hi (hok.2.1 k hkN) hnar hfit
  refine W.putFinK hx hb hown (hts _ hl) hi hst hcf (hnm.trans hin) (by rw [q2]; exact h6) q1 q3 (by rw [hsl]; exact k2_hasslot (q4 k hkN)) rfl rfl hd fun H' e1 e2 e3 => ?_
  rw [hsl] at e1 ⊢
  have hk' : (am_r S a k b a).1 = ci + 3 := by rw [am_r_self]; exact hk
  refine kk p e s m args below meth c H' _ cells slots mc ms ls ⟨hC1, am_H.put hF hH ha e2 e3 am_r_ne (fun _ _ => rfl) ((am_own_3 hk').mpr ⟨r, hr, by rw [am_r_self]; exact hN, t_OB.to (V := updV (am_val C (am_ad x) S d a) k (.ref (am_ad x b))) ⟨_, e1, q2, q3, t_set q4 hap hkN (.ref (am_ad x b))⟩ (fun j _ => ?_)⟩), hS.put e2 e3 ?_, hbc, hbs, hL⟩
  · unfold updV am_val
    rw [am_r_self, hk]
    by_cases hjk : j = k
    · subst hjk; simp [hrf, va_rf]
    · simp [hjk]
  · show am_sz x ≤ am_ad x a
    rw [hF.2.2.2.2.1 a (by omega)]; omega
theorem am_putS {l : Launch} {C : am_Cfg} {x : am_X} {dep bc bs mi pc : Nat} {L : List (Option Value)} {st : List Value} {S : am_S} {nn : Nat} {d : am_D} {Q : Option Value → am_S → Nat → am_D → Prop} {a idx b : Nat} {ty0 : Nat → FieldType} (ci k : Nat) (r : vw_C) (hd : decode (am_mt C mi).2.1 pc = .ok (.putfield idx, 3)) (hk : (S a).1 = ci + 3) (ha : a < nn) (hr : (am_cl C)[ci]? = some r) (hkN : k < r.2.2) (hok : am_clok C r ty0) (hl : Cond.fieldLink (am_mt C mi).1.cls idx (r.2.1 k).1 (r.2.1 k).2.1 (r.2.1 k).2.2.1 ∈ am_ts C) (hfin : (r.2.1 k).2.2.2 = false) (hrf : am_rf C ci k = true) (hnar : narrow (ty0 k) (.ref (am_ad x b)) = .ref (am_ad x b)) (hfit : fits (ty0 k) (.ref (am_ad x b)) = true) (kk : am_W l C x dep bc bs mi (pc + 3) L st (am_r S a k b) nn d Q) : am_W l C x dep bc bs mi pc L (.ref b :: .ref a :: st) S nn d Q := by
  intro p e s m args below meth c H locs cells slots mc ms ls hC
  have hx := hC.1.1
  have hb := hC.1.2.1
  obtain ⟨hC1, hH, hS, hbc, hbs, hL⟩ := hC
  have hts := hC1.2.2.2.2.2.2.2.1
  have hown := hC1.2.2.2.2.2.2.1
  have hF := hC1.2.2.2.2.2.2.2.2
  have hn := hH.2.2
  have hap := va_apart (own := (am_mt C mi).1.cls) hts hok.1 ty0 hok.2.1 hok.2.2 hF.1 hr
  obtain ⟨r', h1, hN, cell, q1, q2, q3, q4⟩ := (am_own_3 hk).mp ((hH.1 a (Or.inl ha)).2 (by omega))
  cases hr.symm.trans h1
  obtain ⟨hSl, hfc, kC, hkC, hkind⟩ := hF.1.1 ci _ hr
  obtain ⟨cf, kf, fi, f, hi, hsl⟩ := hSl k hkN
  have hlay := hts _ (hok.1 _ (u_in_lay hkN))
  unfold u_lay at hlay
  rw [if_neg (by rw [hfin]; decide)] at hlay
  have hst := (u_facts hfc hkC (u_lays hts hok.1 hkN) hi).1
  have h6 := u_store hfc hkC hkind hlay hi (hok.2.1 k hkN) hnar hfit
  refine W.putK hx hb (f := f) ⟨hown, hts _ hl, ⟨_, _, _, hi⟩, hst⟩ (by rw [q2]; exact h6) q1 q3 (by rw [hsl]; exact k2_hasslot (q4 k hkN)) rfl rfl hd fun H' e1 e2 e3 => ?_
  rw [hsl] at e1 ⊢
  have hk' : (am_r S a k b a).1 = ci + 3 := by rw [am_r_self]; exact hk
  refine kk p e s m args below meth c H' _ cells slots mc ms ls ⟨hC1, am_H.put hF hH ha e2 e3 am_r_ne (fun _ _ => rfl) ((am_own_3 hk').mpr ⟨r, hr, by rw [am_r_self]; exact hN, t_OB.to (V := updV (am_val C (am_ad x) S d a) k (.ref (am_ad x b))) ⟨_, e1, q2, q3, t_set q4 hap hkN (.ref (am_ad x b))⟩ (fun j _ => ?_)⟩), hS.put e2 e3 ?_, hbc, hbs, hL⟩
  · unfold updV am_val
    rw [am_r_self, hk]
    by_cases hjk : j = k
    · subst hjk; simp [hrf, va_rf]
    · simp [hjk]
  · show am_sz x ≤ am_ad x a
    rw [hF.2.2.2.2.1 a (by omega)]; omega
theorem am_gets {l : Launch} {C : am_Cfg} {x : am_X} {dep bc bs mi pc : Nat} {L : List (Option Value)} {st : List Value} {S : am_S} {nn : Nat} {d : am_D} {Q : Option Value → am_S → Nat → am_D → Prop} {idx : Nat} (z : String × String × String × Nat) (hd : decode (am_mt C mi).2.1 pc = .ok (.getstatic idx, 3)) (hz : z ∈ am_zs C) (hl : Cond.fieldLink (am_mt C mi).1.cls idx z.1 z.2.1 z.2.2.1 ∈ am_ts C) (kk : am_W l C x dep bc bs mi (pc + 3) L (.ref z.2.2.2 :: st) S nn d Q) : am_W l C x dep bc bs mi pc L st S nn d Q := by
  intro p e s m args below meth c H locs cells slots mc ms ls hC
  have hx := hC.1.1
  have hb := hC.1.2.1
  exact va_gets hx hb (hC.1.2.2.2.2.2.2.2.2.2.2.1 z hz) hC.2.2.1 hC.1.2.2.2.2.2.2.1 (hC.1.2.2.2.2.2.2.2.1 _ hl) (fun _ h => h) hd (kk p e s m args below meth c H locs cells slots mc ms ls hC)
theorem am_iret {l : Launch} {C : am_Cfg} {x : am_X} {dep bc bs mi pc : Nat} {L : List (Option Value)} {st : List Value} {S : am_S} {nn : Nat} {d : am_D} {Q : Option Value → am_S → Nat → am_D → Prop} {v : Int32} {ty : FieldType} (hd : decode (am_mt C mi).2.1 pc = .ok (.ireturn, 1)) (hret : (am_mt C mi).2.2.2 = some ty) (hnar : narrow ty (.int v) = .int v) (hq : Q (some (.int v)) S nn d) : am_W l C x dep bc bs mi pc L [.int v] S nn d Q := by
  intro p e s m args below meth c H locs cells slots mc ms ls hC
  have hx := hC.1.1
  have hb := hC.1.2.1
  have hlk : meth.locks = false := hC.1.2.2.2.2.1
  have hS := hC.2.2.1
  refine W.widen (k := mc) (n := ms) (by have := hC.2.2.2.1; omega) (by have := hC.2.2.2.2.1; omega) ?_
  exact W.zret hx hb (hC.1.2.2.2.1.trans hret) hnar (fun t ht hW => ⟨(some (.int v)), S, nn, d, rfl, hq, by rw [ht]; exact hC.2.1.moved hW.alike, hS.F ht⟩) hS.2.2 hd hlk
theorem am_vret {l : Launch} {C : am_Cfg} {x : am_X} {dep bc bs mi pc : Nat} {L : List (Option Value)} {st : List Value} {S : am_S} {nn : Nat} {d : am_D} {Q : Option Value → am_S → Nat → am_D → Prop} (hd : decode (am_mt C mi).2.1 pc = .ok (.return_, 1)) (hret : (am_mt C mi).2.2.2 = none) (hq : Q none S nn d) : am_W l C x dep bc bs mi pc L [] S nn d Q := by
  intro p e s m args below meth c H locs cells slots mc ms ls hC
  have hx := hC.1.1
  have hb := hC.1.2.1
  have hlk : meth.locks = false := hC.1.2.2.2.2.1
  have hS := hC.2.2.1
  refine W.widen (k := mc) (n := ms) (by have := hC.2.2.2.1; omega) (by have := hC.2.2.2.2.1; omega) ?_
  exact W.vret hx hb (hC.1.2.2.2.1.trans hret) (fun t ht hW => ⟨none, S, nn, d, rfl, hq, by rw [ht]; exact hC.2.1.moved hW.alike, hS.F ht⟩) hS.2.2 hd hlk
def am_good (C : am_Cfg) (mj k : Nat) : Prop := Cond.code (am_mt C mj).1 (am_mt C mj).2.1 (am_mt C mj).2.2.1 (am_mt C mj).2.2.2 ∈ am_ts C ∧ Cond.initialized (am_mt C mj).1.cls ∈ am_ts C ∧ ((am_mt C mj).1.cls ≠ "java/lang/invoke/MethodHandle" ∧ (am_mt C mj).1.cls ≠ "java/lang/invoke/VarHandle" ∧ (parseMethodDescriptor (am_mt C mj).1.desc).map (fun d => d.parameters.length) = some k) ∧ (am_mt C mj).2.2.1 ≤ 60
def am_ml (C : am_Cfg) (own : String) (idx mj : Nat) : Prop := Cond.methodLink own idx (am_mt C mj).1 ∈ am_ts C ∨ ∃ host, Cond.methodLinkNest own idx (am_mt C mj).1 host ∈ am_ns C
theorem am_goodIn {C : am_Cfg} (hok : am_ok C) {mj k : Nat} (hg : am_good C mj k) : GoodIn (am_ts C) (am_ws C mj) := by
  intro w hw
  rcases List.mem_cons.mp hw with rfl | hw
  · exact ⟨hg.1, hok.1 _ hg.1⟩
  · exact ⟨hw, hok.1 _ hw⟩
theorem am_blind {C : am_Cfg} (hok : am_ok C) {x : am_X} {S : am_S} {nn : Nat} {d : am_D} {av : List Value} : FrameBlind (va_Pc av (fun U => am_F C x U ∧ am_H C x S nn d U U.heap)) := by
  intro a U g mk h
  obtain ⟨h0, hF, hH⟩ := h
  have hal : U.vm.Alike (U.calling g mk a).vm := Vm.Alike.refl _
  exact ⟨h0, ⟨va_K.moved hal hF.1, fun w hw => va_Nw.same (u := U) (U := U.calling g mk a) (hok.2 w hw).2 rfl (hF.2.1 w hw), fun z hz => (hF.2.2.1 z hz).moved hal, hF.2.2.2⟩, hH.moved hal⟩
theorem am_call {p : Program} {l : Launch} {e : Env} {R : Room} {s : State} {m : MethodId} {args : Array Value} {below : List Frame} {meth : Method} {c : Code} {H : Heap} {locs : List Loc} {cells slots mc ms pc : Nat} {Qs : State → Prop} {C : am_Cfg} {x : am_X} {Q' : Option Value → am_S → Nat → am_D → Prop} {a : Array Value} {ls : Array Slot} {st0 rest : List Value}
    (hr : va_Run p l e R s m args below meth c H locs cells slots mc ms (F0 m pc ls st0) rest (am_Qc C x Q' a) (am_A x)) (hS : va_S (am_A x) s.heap H locs)
    (kk : ∀ (r : Option Value) (S : am_S) (n : Nat) (d : am_D) (H1 : Heap) (locs1 : List Loc), Q' r S n d → am_H C x S n d s H1 → va_S (am_A x) s.heap H1 locs1 → W p l e R s m args below meth c H1 locs1 (cells + mc) (slots + ms) Qs (F0 m (pc + 3) ls ((r.map (am_up (am_ad x))).toList ++ rest))) : W p l e R s m args below meth c H locs cells slots Qs (F0 m pc ls st0) := by
  intro T hT X
  obtain ⟨v, st₀, t, T', L, h0, X', hL, e1, e2, ⟨r, S, n, d, hv, hq, hH, hz, hk⟩, stp⟩ := hr T hT X
  cases hv
  rw [h0] at hz hk
  have hal : s.vm.Alike t.vm := by rw [← e2]; exact X'.warmed.alike
  obtain ⟨t2, a1, b1⟩ := kk r S n d T'.heap (locs ++ L) hq (by rw [e1]; exact hH.moved hal.symm)
    ⟨Nat.le_trans hS.1 (by rw [e1]; exact hz), fun q h1 h2 => by rw [e1, hk q (Nat.lt_of_lt_of_le h1 hS.1) h2]; exact hS.2.1 q h1 h2, fun q hq => by
      rcases List.mem_append.mp hq with h | h
      · exact hS.2.2 q h
      · exact hL q h⟩ T' rfl X'
  exact ⟨t2, stp t2 a1, b1⟩
theorem am_cat {ad : Nat → Nat} {st : List Value} (h : (st.map fun v => v.category).sum ≤ 8) : ((st.map (am_up ad)).map fun v => v.category).sum ≤ 8 := by
  have e : ((st.map (am_up ad)).map fun v => v.category) = st.map fun v => v.category := by
    rw [List.map_map]; apply List.map_congr_left; intro v _; exact am_up_cat ad v
  rw [e]; exact h
theorem am_opt (ad : Nat → Nat) (r : Option Value) (st : List Value) : (r.map (am_up ad)).toList ++ st.map (am_up ad) = (r.toList ++ st).map (am_up ad) := by cases r <;> rfl
theorem am_callS {l : Launch} {C : am_Cfg} {x : am_X} {dep bc bs mi pc : Nat} {L : List (Option Value)} {st : List Value} {S : am_S} {nn : Nat} {d : am_D} {Q : Option Value → am_S → Nat → am_D → Prop} {idx mj k mc' ms' : Nat} {stk : List Value} {Q' : Option Value → am_S → Nat → am_D → Prop} (hok : am_ok C) (as : List Value) (hd : decode (am_mt C mi).2.1 pc = .ok (.invokestatic idx, 3)) (hg : am_good C mj k) (hl : am_ml C (am_mt C mi).1.cls idx mj) (hst : Cond.static (am_mt C mj).1 ∈ am_ts C) (hk : as.length = k) (hstk : as.reverse ++ st = stk) (hs : (st.map fun v => v.category).sum ≤ 8) (hM : am_Met l C x dep mc' ms' mj as S nn d Q') (hc1 : mc' ≤ bc) (hc2 : ms' ≤ bs) (kk : ∀ r S' n' d', Q' r S' n' d' → am_W l C x (dep + 1) (bc - mc') (bs - ms') mi (pc + 3) L (r.toList ++ st) S' n' d' Q) : am_W l C x (dep + 1) bc bs mi pc L stk S nn d Q := by
  intro p e s m args below meth c H locs cells slots mc ms ls hC
  obtain ⟨⟨hx, hb, hml, hr, hlk, hnm, hown, hts, hF⟩, hH, hS, hbc, hbs, hL⟩ := hC
  subst hstk
  have hG := am_goodIn hok hg
  have hR : (am_rm dep mc' ms').frames + 1 ≤ (am_rm (dep + 1) mc ms).frames ∧ 8 + ((am_mt C mj).2.2.1 + 11) + (am_rm dep mc' ms').locals ≤ (am_rm (dep + 1) mc ms).locals := by
    have := hg.2.2.2
    refine ⟨Nat.le_refl _, ?_⟩
    show 8 + ((am_mt C mj).2.2.1 + 11) + 80 * dep ≤ 80 * (dep + 1)
    omega
  have hP : ∀ U : State, U.heap = H → s.WarmedH U.vm → va_Pc (as.map (am_up (am_ad x))) (fun U => am_F C x U ∧ am_H C x S nn d U U.heap) (as.map (am_up (am_ad x))).toArray U := fun U hU hW => ⟨rfl, am_F.warm hok hF hU hW hS, by rw [hU]; exact hH.moved hW.alike⟩
  have hcs : cells + mc' ≤ (am_rm (dep + 1) mc ms).cells ∧ slots + ms' ≤ (am_rm (dep + 1) mc ms).slots := ⟨by show cells + mc' ≤ mc; omega, by show slots + ms' ≤ ms; omega⟩
  refine am_call (C := C) (Q' := Q') (rest := st.map (am_up (am_ad x))) (mc := mc') (ms := ms') (a := (as.map (am_up (am_ad x))).toArray) ?_ hS (fun r S' n' d' H1 locs1 hq hH1 hS1 => ?_)
  · skip
    rcases hl with hl | ⟨host, hl⟩
    · exact va_runS (bytes := (am_mt C mj).2.1) (maxL := (am_mt C mj).2.2.1) (ret := (am_mt C mj).2.2.2) (As := as.map (am_up (am_ad x))) (n := k) ⟨hx, hb, hml, hown, hts⟩ hM ⟨callB_of k hts hG rfl rfl rfl (hts _ hg.2.1) (hts _ hl) hg.2.2.1 hR, hts _ hst⟩ ⟨am_blind hok, hP⟩ rfl (by rw [List.length_map]; exact hk) hL.1 (by show List.map _ (as.reverse ++ st) = _; rw [List.map_append, List.map_reverse]) (lv_room (am_cat hs)) hd hcs
    · exact va_runSN (host := host) (bytes := (am_mt C mj).2.1) (maxL := (am_mt C mj).2.2.1) (ret := (am_mt C mj).2.2.2) (As := as.map (am_up (am_ad x))) (n := k) ⟨hx, hb, hml, hown, hts⟩ hM ⟨va_cnB k hts hG rfl rfl rfl (hF.2.1 _ hl) (hts _ hg.2.1) hg.2.2.1 hR, ⟨hts _ hst, trivial⟩⟩ ⟨am_blind hok, hP⟩ rfl (by rw [List.length_map]; exact hk) hL.1 (by show List.map _ (as.reverse ++ st) = _; rw [List.map_append, List.map_reverse]) (lv_room (am_cat hs)) hd hcs
  · rw [am_opt]
    exact kk r S' n' d' hq p e s m args below meth c H1 locs1 (cells + mc') (slots + ms') mc ms ls ⟨⟨hx, hb, hml, hr, hlk, hnm, hown, hts, hF⟩, hH1, hS1, by omega, by omega, hL⟩
theorem am_callV {l : Launch} {C : am_Cfg} {x : am_X} {dep bc bs mi pc : Nat} {L : List (Option Value)} {st : List Value} {S : am_S} {nn : Nat} {d : am_D} {Q : Option Value → am_S → Nat → am_D → Prop} {idx mj k mc' ms' : Nat} {stk : List Value} {b : Nat} {Q' : Option Value → am_S → Nat → am_D → Prop} (hok : am_ok C) (as : List Value) (hd : decode (am_mt C mi).2.1 pc = .ok (.invokevirtual idx, 3)) (hg : am_good C mj k) (hl : am_ml C (am_mt C mi).1.cls idx mj) (hst : Cond.instanceMethod (am_mt C mj).1 ∈ am_ts C) (hsel : Cond.selects (am_mt C mj).1.cls (am_mt C mj).1 (am_mt C mj).1 ∈ am_ts C) (ci : Nat) (rc : vw_C) (hbk : (S b).1 = ci + 3) (hbn : b < nn) (hrc : (am_cl C)[ci]? = some rc) (hcn : rc.1 = (am_mt C mj).1.cls) (hk : as.length = k) (hstk : as.reverse ++ .ref b :: st = stk) (hs : (st.map fun v => v.category).sum ≤ 8) (hM : am_Met l C x dep mc' ms' mj (.ref b :: as) S nn d Q') (hc1 : mc' ≤ bc) (hc2 : ms' ≤ bs) (kk : ∀ r S' n' d', Q' r S' n' d' → am_W l C x (dep + 1) (bc - mc') (bs - ms') mi (pc + 3) L (r.toList ++ st) S' n' d' Q) : am_W l C x (dep + 1) bc bs mi pc L stk S nn d Q := by
  intro p e s m args below meth c H locs cells slots mc ms ls hC
  obtain ⟨⟨hx, hb, hml, hr, hlk, hnm, hown, hts, hF⟩, hH, hS, hbc, hbs, hL⟩ := hC
  subst hstk
  have hG := am_goodIn hok hg
  have hR : (am_rm dep mc' ms').frames + 1 ≤ (am_rm (dep + 1) mc ms).frames ∧ 8 + ((am_mt C mj).2.2.1 + 11) + (am_rm dep mc' ms').locals ≤ (am_rm (dep + 1) mc ms).locals := by
    have := hg.2.2.2
    refine ⟨Nat.le_refl _, ?_⟩
    show 8 + ((am_mt C mj).2.2.1 + 11) + 80 * dep ≤ 80 * (dep + 1)
    omega
  have hP : ∀ U : State, U.heap = H → s.WarmedH U.vm → va_Pc ((Value.ref b :: as).map (am_up (am_ad x))) (fun U => am_F C x U ∧ am_H C x S nn d U U.heap) ((Value.ref b :: as).map (am_up (am_ad x))).toArray U := fun U hU hW => ⟨rfl, am_F.warm hok hF hU hW hS, by rw [hU]; exact hH.moved hW.alike⟩
  have hcs : cells + mc' ≤ (am_rm (dep + 1) mc ms).cells ∧ slots + ms' ≤ (am_rm (dep + 1) mc ms).slots := ⟨by show cells + mc' ≤ mc; omega, by show slots + ms' ≤ ms; omega⟩
  refine am_call (C := C) (Q' := Q') (rest := st.map (am_up (am_ad x))) (mc := mc') (ms := ms') (a := ((Value.ref b :: as).map (am_up (am_ad x))).toArray) ?_ hS (fun r S' n' d' H1 locs1 hq hH1 hS1 => ?_)
  · have hn := hH.2.2
    have hrecv : ∃ cellB : Cell, H[am_ad x b]? = some cellB ∧ cellB.vm.isStatics = false ∧ s.vm.findClass (am_mt C mj).1.cls = some cellB.cls := by
      obtain ⟨r', h1, -, cell, q1, q2, q3, -⟩ := (am_own_3 hbk).mp ((hH.1 b (Or.inl hbn)).2 (by omega))
      cases hrc.symm.trans h1
      refine ⟨cell, q1, by rw [q3]; rfl, ?_⟩
      rw [q2, ← hcn]
      exact (hF.1.1 ci _ hrc).2.1
    rcases hl with hl | ⟨host, hl⟩
    · exact va_runV (C := (am_mt C mj).1.cls) (bytes := (am_mt C mj).2.1) (maxL := (am_mt C mj).2.2.1) (ret := (am_mt C mj).2.2.2) (As := as.map (am_up (am_ad x))) (n := k) ⟨hx, hb, hml, hown, hts⟩ hM ⟨callB_of k hts hG rfl rfl rfl (hts _ hg.2.1) (hts _ hl) hg.2.2.1 hR, ⟨hts _ hst, hts _ hsel⟩⟩ ⟨am_blind hok, hrecv, hP⟩ rfl (by rw [List.length_map]; exact hk) hL.1 (by show List.map _ (as.reverse ++ .ref b :: st) = _; rw [List.map_append, List.map_reverse]; rfl) (lv_room (am_cat hs)) hd hcs
    · exact va_runVN (C := (am_mt C mj).1.cls) (host := host) (bytes := (am_mt C mj).2.1) (maxL := (am_mt C mj).2.2.1) (ret := (am_mt C mj).2.2.2) (As := as.map (am_up (am_ad x))) (n := k) ⟨hx, hb, hml, hown, hts⟩ hM ⟨va_cnB k hts hG rfl rfl rfl (hF.2.1 _ hl) (hts _ hg.2.1) hg.2.2.1 hR, ⟨hts _ hst, hts _ hsel⟩⟩ ⟨am_blind hok, hrecv, hP⟩ rfl (by rw [List.length_map]; exact hk) hL.1 (by show List.map _ (as.reverse ++ .ref b :: st) = _; rw [List.map_append, List.map_reverse]; rfl) (lv_room (am_cat hs)) hd hcs
  · rw [am_opt]
    exact kk r S' n' d' hq p e s m args below meth c H1 locs1 (cells + mc') (slots + ms') mc ms ls ⟨⟨hx, hb, hml, hr, hlk, hnm, hown, hts, hF⟩, hH1, hS1, by omega, by omega, hL⟩
theorem am_callI {l : Launch} {C : am_Cfg} {x : am_X} {dep bc bs mi pc : Nat} {L : List (Option Value)} {st : List Value} {S : am_S} {nn : Nat} {d : am_D} {Q : Option Value → am_S → Nat → am_D → Prop} {idx mj k mc' ms' : Nat} {stk : List Value} {b : Nat} {Q' : Option Value → am_S → Nat → am_D → Prop} (hok : am_ok C) (as : List Value) (hd : decode (am_mt C mi).2.1 pc = .ok (.invokespecial idx, 3)) (hg : am_good C mj k) (hl : am_ml C (am_mt C mi).1.cls idx mj) (hst : Cond.instanceMethod (am_mt C mj).1 ∈ am_ts C) (hin : (am_mt C mj).1.name = "<init>") (hret : (am_mt C mj).2.2.2 = none) (hk : as.length = k) (hstk : as.reverse ++ .ref b :: st = stk) (hs : (st.map fun v => v.category).sum ≤ 8) (hM : am_Met l C x dep mc' ms' mj (.ref b :: as) S nn d Q') (hc1 : mc' ≤ bc) (hc2 : ms' ≤ bs) (kk : ∀ r S' n' d', Q' r S' n' d' → am_W l C x (dep + 1) (bc - mc') (bs - ms') mi (pc + 3) L (r.toList ++ st) S' n' d' Q) : am_W l C x (dep + 1) bc bs mi pc L stk S nn d Q := by
  intro p e s m args below meth c H locs cells slots mc ms ls hC
  obtain ⟨⟨hx, hb, hml, hr, hlk, hnm, hown, hts, hF⟩, hH, hS, hbc, hbs, hL⟩ := hC
  subst hstk
  have hG := am_goodIn hok hg
  have hR : (am_rm dep mc' ms').frames + 1 ≤ (am_rm (dep + 1) mc ms).frames ∧ 8 + ((am_mt C mj).2.2.1 + 11) + (am_rm dep mc' ms').locals ≤ (am_rm (dep + 1) mc ms).locals := by
    have := hg.2.2.2
    refine ⟨Nat.le_refl _, ?_⟩
    show 8 + ((am_mt C mj).2.2.1 + 11) + 80 * dep ≤ 80 * (dep + 1)
    omega
  have hP : ∀ U : State, U.heap = H → s.WarmedH U.vm → va_Pc ((Value.ref b :: as).map (am_up (am_ad x))) (fun U => am_F C x U ∧ am_H C x S nn d U U.heap) ((Value.ref b :: as).map (am_up (am_ad x))).toArray U := fun U hU hW => ⟨rfl, am_F.warm hok hF hU hW hS, by rw [hU]; exact hH.moved hW.alike⟩
  have hcs : cells + mc' ≤ (am_rm (dep + 1) mc ms).cells ∧ slots + ms' ≤ (am_rm (dep + 1) mc ms).slots := ⟨by show cells + mc' ≤ mc; omega, by show slots + ms' ≤ ms; omega⟩
  refine am_call (C := C) (Q' := Q') (rest := st.map (am_up (am_ad x))) (mc := mc') (ms := ms') (a := ((Value.ref b :: as).map (am_up (am_ad x))).toArray) ?_ hS (fun r S' n' d' H1 locs1 hq hH1 hS1 => ?_)
  · skip
    have hw0 : am_ws C mj = Cond.code (am_mt C mj).1 (am_mt C mj).2.1 (am_mt C mj).2.2.1 none :: am_ts C := by show _ :: _ = _; rw [hret]
    rcases hl with hl | ⟨host, hl⟩
    · exact va_runI (bytes := (am_mt C mj).2.1) (maxL := (am_mt C mj).2.2.1) (As := as.map (am_up (am_ad x))) (n := k) ⟨hx, hb, hml, hown, hts⟩ hM ⟨callB_of k hts hG hw0 rfl rfl (hts _ hg.2.1) (hts _ hl) hg.2.2.1 hR, ⟨hin, hts _ hst⟩⟩ ⟨am_blind hok, hP⟩ rfl (by rw [List.length_map]; exact hk) hL.1 (by show List.map _ (as.reverse ++ .ref b :: st) = _; rw [List.map_append, List.map_reverse]; rfl) (lv_room (am_cat hs)) hd hcs
    · exact va_runIN (host := host) (bytes := (am_mt C mj).2.1) (maxL := (am_mt C mj).2.2.1) (As := as.map (am_up (am_ad x))) (n := k) ⟨hx, hb, hml, hown, hts⟩ hM ⟨va_cnB k hts hG hw0 rfl rfl (hF.2.1 _ hl) (hts _ hg.2.1) hg.2.2.1 hR, ⟨hin, hts _ hst⟩⟩ ⟨am_blind hok, hP⟩ rfl (by rw [List.length_map]; exact hk) hL.1 (by show List.map _ (as.reverse ++ .ref b :: st) = _; rw [List.map_append, List.map_reverse]; rfl) (lv_room (am_cat hs)) hd hcs
  · rw [am_opt]
    exact kk r S' n' d' hq p e s m args below meth c H1 locs1 (cells + mc') (slots + ms') mc ms ls ⟨⟨hx, hb, hml, hr, hlk, hnm, hown, hts, hF⟩, hH1, hS1, by omega, by omega, hL⟩
theorem am_objInit {l : Launch} {C : am_Cfg} {x : am_X} {dep bc bs mi pc : Nat} {L : List (Option Value)} {st : List Value} {S : am_S} {nn : Nat} {d : am_D} {Q : Option Value → am_S → Nat → am_D → Prop} {idx a : Nat} (hd : decode (am_mt C mi).2.1 pc = .ok (.invokespecial idx, 3)) (hl : Cond.methodLink (am_mt C mi).1.cls idx Lib.objectInit ∈ am_ts C) (hi : Cond.instanceMethod Lib.objectInit ∈ am_ts C) (hc : Cond.code Lib.objectInit ⟨#[0xb1]⟩ 1 none ∈ am_ts C) (hs : (st.map fun v => v.category).sum ≤ 8) (kk : am_W l C x (dep + 1) bc bs mi (pc + 3) L st S nn d Q) : am_W l C x (dep + 1) bc bs mi pc L (.ref a :: st) S nn d Q := by
  intro p e s m args below meth c H locs cells slots mc ms ls hC
  have hx := hC.1.1
  have hb := hC.1.2.1
  have hts := hC.1.2.2.2.2.2.2.2.1
  have hsz := hC.at.1
  have hml := hC.1.2.2.1
  refine W.objInit hx hb hC.1.2.2.2.2.2.2.1 (hts _ hl) (hts _ hi) (hts _ hc) rfl (by rw [hml]; exact hsz) rfl hd (by show 1 ≤ dep + 1; omega) ?_ (kk p e s m args below meth c H locs cells slots mc ms ls hC)
  have := am_cat (ad := am_ad x) hs
  show 2 * 0 + _ + 12 ≤ 80 * (dep + 1)
  omega
theorem am_mmax {l : Launch} {C : am_Cfg} {x : am_X} {dep bc bs mi pc : Nat} {L : List (Option Value)} {st : List Value} {S : am_S} {nn : Nat} {d : am_D} {Q : Option Value → am_S → Nat → am_D → Prop} {idx : Nat} {u v : Int32} (hd : decode (am_mt C mi).2.1 pc = .ok (.invokestatic idx, 3)) (hl : Cond.methodLink (am_mt C mi).1.cls idx Lib.Math.max.name ∈ am_ts C) (hi : Cond.static Lib.Math.max.name ∈ am_ts C) (hini : Cond.initialized "java/lang/Math" ∈ am_ts C) (hc : Cond.code Lib.Math.max.name Lib.Math.max.code 2 (some .int) ∈ am_ts C) (hs : (st.map fun v => v.category).sum ≤ 8) (kk : am_W l C x (dep + 1) bc bs mi (pc + 3) L (.int (if u < v then v else u) :: st) S nn d Q) : am_W l C x (dep + 1) bc bs mi pc L (.int v :: .int u :: st) S nn d Q := by
  intro p e s m args below meth c H locs cells slots mc ms ls hC
  have hx := hC.1.1
  have hb := hC.1.2.1
  have hts := hC.1.2.2.2.2.2.2.2.1
  have hsz := hC.at.1
  have hml := hC.1.2.2.1
  refine va_mmax hx hb (by rw [hml]; exact hsz.symm) hC.1.2.2.2.2.2.2.1 (hts _ hl) (hts _ hi) (hts _ hini) (hts _ hc) (by show 1 ≤ dep + 1; omega) ?_ (by show cells ≤ mc; have := hC.2.2.2.1; omega) (by show slots ≤ ms; have := hC.2.2.2.2.1; omega) hd (kk p e s m args below meth c H locs cells slots mc ms ls hC)
  have := am_cat (ad := am_ad x) hs
  show _ + 13 ≤ 80 * (dep + 1)
  omega
theorem am_mmin {l : Launch} {C : am_Cfg} {x : am_X} {dep bc bs mi pc : Nat} {L : List (Option Value)} {st : List Value} {S : am_S} {nn : Nat} {d : am_D} {Q : Option Value → am_S → Nat → am_D → Prop} {idx : Nat} {u v : Int32} (hd : decode (am_mt C mi).2.1 pc = .ok (.invokestatic idx, 3)) (hl : Cond.methodLink (am_mt C mi).1.cls idx Lib.Math.min.name ∈ am_ts C) (hi : Cond.static Lib.Math.min.name ∈ am_ts C) (hini : Cond.initialized "java/lang/Math" ∈ am_ts C) (hc : Cond.code Lib.Math.min.name Lib.Math.min.code 2 (some .int) ∈ am_ts C) (hs : (st.map fun v => v.category).sum ≤ 8) (kk : am_W l C x (dep + 1) bc bs mi (pc + 3) L (.int (if v < u then v else u) :: st) S nn d Q) : am_W l C x (dep + 1) bc bs mi pc L (.int v :: .int u :: st) S nn d Q := by
  intro p e s m args below meth c H locs cells slots mc ms ls hC
  have hx := hC.1.1
  have hb := hC.1.2.1
  have hts := hC.1.2.2.2.2.2.2.2.1
  have hsz := hC.at.1
  have hml := hC.1.2.2.1
  refine va_mmin hx hb (by rw [hml]; exact hsz.symm) hC.1.2.2.2.2.2.2.1 (hts _ hl) (hts _ hi) (hts _ hini) (hts _ hc) (by show 1 ≤ dep + 1; omega) ?_ (by show cells ≤ mc; have := hC.2.2.2.1; omega) (by show slots ≤ ms; have := hC.2.2.2.2.1; omega) hd (kk p e s m args below meth c H locs cells slots mc ms ls hC)
  have := am_cat (ad := am_ad x) hs
  show _ + 13 ≤ 80 * (dep + 1)
  omega
end
section
def am_nw (S : am_S) (a : Nat) (k : Nat × Nat × (Nat → Option Nat)) : am_S := fun b => if b = a then k else S b
def am_nd (d : am_D) (a : Nat) (f : Nat → Int32) : am_D := fun b => if b = a then f else d b
theorem am_nw_self {S : am_S} {a : Nat} {k : Nat × Nat × (Nat → Option Nat)} : am_nw S a k a = k := by unfold am_nw; rw [if_pos rfl]
theorem am_nd_self {d : am_D} {a : Nat} {f : Nat → Int32} : am_nd d a f a = f := by unfold am_nd; rw [if_pos rfl]
theorem am_nw_ne {S : am_S} {a b : Nat} {k : Nat × Nat × (Nat → Option Nat)} (h : b ≠ a) : am_nw S a k b = S b := by unfold am_nw; rw [if_neg h]
theorem am_nd_ne {d : am_D} {a b : Nat} {f : Nat → Int32} (h : b ≠ a) : am_nd d a f b = d b := by unfold am_nd; rw [if_neg h]
theorem am_H.push {C : am_Cfg} {x : am_X} {S : am_S} {n : Nat} {d : am_D} {U : State} {H H' : Heap} {k : Nat × Nat × (Nat → Option Nat)} {f : Nat → Int32} (hF : am_F C x U) (h : am_H C x S n d U H) (hn : n < 1000) (hz : H'.size = H.size + 1) (ho : ∀ q, q < H.size → H'[q]? = H[q]?) (hc : am_own C x (am_nw S n k) (am_nd d n f) U H' n) : am_H C x (am_nw S n k) (n + 1) (am_nd d n f) U H' := by
  obtain ⟨h1, h2, h3⟩ := h
  refine ⟨fun b hb => ?_, by omega, by omega⟩
  by_cases e : b = n
  · subst e
    exact ⟨fun z => by omega, fun _ => hc⟩
  · have hb' : b < n ∨ (1000 ≤ b ∧ b < 1002) := by omega
    refine ((h1 b hb').kept (ho _ ?_)).same (am_nw_ne e) (am_nd_ne e)
    rcases hb' with z | z
    · rw [hF.2.2.2.2.1 b (by omega)]; omega
    · have := hF.2.2.2.2.2 b z.1; omega
theorem am_S.push {x : am_X} {H0 H H' : Heap} {locs : List Loc} (hS : va_S (am_A x) H0 H locs) (hz : H'.size = H.size + 1) (ho : ∀ q, q < H.size → H'[q]? = H[q]?) : va_S (am_A x) H0 H' locs :=
  ⟨by have := hS.1; omega, fun q h1 h2 => (ho q (Nat.lt_of_lt_of_le h1 hS.1)).trans (hS.2.1 q h1 h2), hS.2.2⟩
theorem am_newI {l : Launch} {C : am_Cfg} {x : am_X} {dep bc bs mi pc : Nat} {L : List (Option Value)} {st : List Value} {S : am_S} {nn : Nat} {d : am_D} {Q : Option Value → am_S → Nat → am_D → Prop} {v : Int32} (N : Nat) (hd : decode (am_mt C mi).2.1 pc = .ok (.newarray .int, 2)) (hw : Cond.arrayClass .int ∈ am_ts C) (hv : v = nI N) (hN : N ≤ 100000) (hn : nn < 1000) (kk : am_W l C x dep bc bs mi (pc + 2) L (.ref nn :: st) (am_nw S nn (0, N, fun _ => none)) (nn + 1) (am_nd d nn (fun _ => 0)) Q) : am_W l C x dep (bc + 1) (bs + N) mi pc L (.int v :: st) S nn d Q := by
  intro p e s m args below meth c H locs cells slots mc ms ls hC
  obtain ⟨⟨hx, hb, hml, hr, hlk, hnm, hown, hts, hF⟩, hH, hS, hbc, hbs, hL⟩ := hC
  subst hv
  have hcl : (nI N).toNatClampNeg = N := nI_clamp (by omega)
  refine va_newaK (atype := .int) hx hb (hts _ hw) rfl hd rfl (nI_pos (by omega)) hcl (by show N * _ ≤ _; simp only [Op.newarray.typeOf, componentBytes]; omega) (by show cells + 1 ≤ mc; omega) (by show slots + N ≤ ms; omega) rfl fun H' cA e1 e2 e3 hA _ => ?_
  have hk : (am_nw S nn (0, N, fun _ => none) nn).1 = 0 := by rw [am_nw_self]
  have hq : H.size = am_ad x nn := by rw [hF.2.2.2.2.1 nn hn]; exact hH.2.1
  rw [hq]
  refine kk p e s m args below meth c H' locs (cells + 1) (slots + N) mc ms ls ⟨⟨hx, hb, hml, hr, hlk, hnm, hown, hts, hF⟩, am_H.push hF hH hn e2 e3 ((am_own_0 hk).mpr ⟨cA, ?_, hA⟩), am_S.push hS e2 e3, by omega, by omega, hL⟩
  rw [am_nw_self, am_nd_self, ← hq]
  exact e1
theorem am_newC {l : Launch} {C : am_Cfg} {x : am_X} {dep bc bs mi pc : Nat} {L : List (Option Value)} {st : List Value} {S : am_S} {nn : Nat} {d : am_D} {Q : Option Value → am_S → Nat → am_D → Prop} {v : Int32} (N : Nat) (hd : decode (am_mt C mi).2.1 pc = .ok (.newarray .char, 2)) (hw : Cond.arrayClass .char ∈ am_ts C) (hv : v = nI N) (hN : N ≤ 100000) (hn : nn < 1000) (kk : am_W l C x dep bc bs mi (pc + 2) L (.ref nn :: st) (am_nw S nn (1, N, fun _ => none)) (nn + 1) (am_nd d nn (fun _ => 0)) Q) : am_W l C x dep (bc + 1) (bs + N) mi pc L (.int v :: st) S nn d Q := by
  intro p e s m args below meth c H locs cells slots mc ms ls hC
  obtain ⟨⟨hx, hb, hml, hr, hlk, hnm, hown, hts, hF⟩, hH, hS, hbc, hbs, hL⟩ := hC
  subst hv
  have hcl : (nI N).toNatClampNeg = N := nI_clamp (by omega)
  refine va_newaK (atype := .char) hx hb (hts _ hw) rfl hd rfl (nI_pos (by omega)) hcl (by show N * _ ≤ _; simp only [Op.newarray.typeOf, componentBytes]; omega) (by show cells + 1 ≤ mc; omega) (by show slots + N ≤ ms; omega) rfl fun H' cA e1 e2 e3 hA _ => ?_
  have hk : (am_nw S nn (1, N, fun _ => none) nn).1 = 1 := by rw [am_nw_self]
  have hq : H.size = am_ad x nn := by rw [hF.2.2.2.2.1 nn hn]; exact hH.2.1
  rw [hq]
  refine kk p e s m args below meth c H' locs (cells + 1) (slots + N) mc ms ls ⟨⟨hx, hb, hml, hr, hlk, hnm, hown, hts, hF⟩, am_H.push hF hH hn e2 e3 ((am_own_1 hk).mpr ⟨cA, ?_, hA⟩), am_S.push hS e2 e3, by omega, by omega, hL⟩
  rw [am_nw_self, am_nd_self, ← hq]
  exact e1
theorem am_new {l : Launch} {C : am_Cfg} {x : am_X} {dep bc bs mi pc : Nat} {L : List (Option Value)} {st : List Value} {S : am_S} {nn : Nat} {d : am_D} {Q : Option Value → am_S → Nat → am_D → Prop} {idx : Nat} {ty0 : Nat → FieldType} (ci : Nat) (r : vw_C) (hd : decode (am_mt C mi).2.1 pc = .ok (.new idx, 3)) (hr : (am_cl C)[ci]? = some r) (hok : am_clok C r ty0) (hl : Cond.classLink (am_mt C mi).1.cls idx r.1 ∈ am_ts C) (hi : Cond.instantiable r.1 r.2.2 ∈ am_ts C) (hini : Cond.initialized r.1 ∈ am_ts C) (hdef : ∀ j, j < r.2.2 → defaultValue (ty0 j) = if am_rf C ci j = true then .null else .int 0) (hn : nn < 1000) (kk : am_W l C x dep bc bs mi (pc + 3) L (.ref nn :: st) (am_nw S nn (ci + 3, r.2.2, fun _ => none)) (nn + 1) (am_nd d nn (fun _ => 0)) Q) : am_W l C x dep (bc + 1) (bs + r.2.2) mi pc L st S nn d Q := by
  intro p e s m args below meth c H locs cells slots mc ms ls hC
  obtain ⟨⟨hx, hb, hml, hrt, hlk, hnm, hown, hts, hF⟩, hH, hS, hbc, hbs, hL⟩ := hC
  have hKn := hF.1.1 ci _ hr
  refine W.newcK hx hb hown (hts _ hl) (hts _ hi) (hts _ hini) rfl hd (by show cells + 1 ≤ mc; omega) (by show slots + r.2.2 ≤ ms; omega) hKn.2.1 rfl fun H' kC hkC e1 e2 e3 => ?_
  have hk : (am_nw S nn (ci + 3, r.2.2, fun _ => none) nn).1 = ci + 3 := by rw [am_nw_self]
  have hq : H.size = am_ad x nn := by rw [hF.2.2.2.2.1 nn hn]; exact hH.2.1
  rw [hq]
  refine kk p e s m args below meth c H' locs (cells + 1) (slots + r.2.2) mc ms ls ⟨⟨hx, hb, hml, hrt, hlk, hnm, hown, hts, hF⟩, am_H.push hF hH hn e2 e3 ((am_own_3 hk).mpr ⟨r, hr, by rw [am_nw_self], ?_⟩), am_S.push hS e2 e3, by omega, by omega, hL⟩
  rw [← hq]
  refine (u_born ty0 hts hok.1 hKn hkC e1 hok.2.1).to (fun j hj => ?_)
  rw [hdef j hj]
  unfold am_val
  rw [am_nw_self, am_nd_self]
  show _ = if am_rf C (ci + 3 - 3) j = true then va_rf none else .int 0
  rw [Nat.add_sub_cancel]
  rfl
def am_cp (d : am_D) (a b k : Nat) : am_D := fun q j => if q = b ∧ j < k then d a j else d q j
theorem am_cp_ne {d : am_D} {a b k : Nat} (q : Nat) (h : q ≠ b) : am_cp d a b k q = d q := by funext j; unfold am_cp; rw [if_neg (fun z => h z.1)]
theorem am_copy {l : Launch} {C : am_Cfg} {x : am_X} {dep bc bs mi pc : Nat} {L : List (Option Value)} {st : List Value} {S : am_S} {nn : Nat} {d : am_D} {Q : Option Value → am_S → Nat → am_D → Prop} {idx a b : Nat} {v : Int32} (k : Nat) (hd : decode (am_mt C mi).2.1 pc = .ok (.invokestatic idx, 3)) (hl : Cond.methodLink (am_mt C mi).1.cls idx arraycopyName ∈ am_ts C) (hnat : Cond.native arraycopyName ∈ am_ts C) (hstat : Cond.static arraycopyName ∈ am_ts C) (hini : Cond.initialized "java/lang/System" ∈ am_ts C) (hka : (S a).1 = 0) (hkb : (S b).1 = 0) (ha : a < nn) (hbn : b < nn) (hv : v = nI k) (h4 : k ≤ (S a).2.1) (h5 : k ≤ (S b).2.1) (hm : k < 2147483648) (hs : (st.map fun v => v.category).sum ≤ 8) (kk : am_W l C x (dep + 1) bc bs mi (pc + 3) L st S nn (am_cp d a b k) Q) : am_W l C x (dep + 1) bc bs mi pc L (.int v :: .int 0 :: .ref b :: .int 0 :: .ref a :: st) S nn d Q := by
  intro p e s m args below meth c H locs cells slots mc ms ls hC
  obtain ⟨⟨hx, hb, hml, hr, hlk, hnm, hown, hts, hF⟩, hH, hS, hbc, hbs, hL⟩ := hC
  subst hv
  have hcl : (nI k).toNatClampNeg = k := nI_clamp (by omega)
  have h0 : (0 : Int32).toNatClampNeg = 0 := sb_cl0
  have h00 : ¬ (0 : Int32) < 0 := by decide
  have hk0 : ¬ nI k < 0 := nI_pos (by omega)
  have hn := hH.2.2
  obtain ⟨c0, g0, t0⟩ := (am_own_0 hka).mp ((hH.1 a (Or.inl ha)).2 (by omega))
  obtain ⟨c1, g1, t1⟩ := (am_own_0 hkb).mp ((hH.1 b (Or.inl hbn)).2 (by omega))
  intro T hT X
  obtain ⟨-, k0, hk0', cm0, hkk0⟩ := t0 (S a).2.1 (fun j => .int (d a j))
  obtain ⟨-, k1, hk1', cm1, hkk1⟩ := t1 (S b).2.1 (fun j => .int (d b j))
  have hcat := am_cat (ad := am_ad x) hs
  have hnw : nativeFrameWords "java/lang/System" "arraycopy" 5 + 11 ≤ 60 := by decide +kernel
  have hfw : 2 * 0 + ((st.map (am_up (am_ad x))).map fun v => v.category).sum + (nativeFrameWords "java/lang/System" "arraycopy" 5 + 11) ≤ 80 * (dep + 1) := by omega
  obtain ⟨vm', X', step⟩ := X.arraycopy hx hown (hts _ hl) (hts _ hnat) (hts _ hstat) (hts _ hini) (src := am_ad x a) (dst := am_ad x b) (cs := arrV c0 (S a).2.1 (fun j => .int (d a j))) (cd := arrV c1 (S b).2.1 (fun j => .int (d b j))) (srcPos := 0) (destPos := 0) (n := nI k) (by rw [hT]; exact g0) (by rw [hT]; exact g1)
    (fun _ h => by cases h) (fun _ h => by cases h) (fun h => by cases h) (fun h => by cases h) hk0' hk1' hkk0 hkk1 (by simp [refKind]) h00 h00 hk0
    (by rw [nI_toInt (by omega), arrV_size]; show ¬ (0 : Int) + _ > _; omega)
    (by rw [nI_toInt (by omega), arrV_size]; show ¬ (0 : Int) + _ > _; omega)
    (fun vm₁ _ i hi => by
      rw [hcl] at hi
      have e : (arrV c0 (S a).2.1 (fun j => Value.int (d a j))).slots.getD ((0 : Int32).toNatClampNeg + i) .null = .int (d a ((0 : Int32).toNatClampNeg + i)) := by
        rw [Array.getD_eq_getD_getElem?, arrV_read _ _ (by rw [h0]; omega)]
        rfl
      refine ⟨?_, ?_⟩
      · rw [e]
        rfl
      · rw [e]
        exact trivial)
    (g := F0 m pc ls (.int (nI k) :: .int 0 :: .ref (am_ad x b) :: .int 0 :: .ref (am_ad x a) :: st.map (am_up (am_ad x)))) rfl (by show ls.size = _; rw [hml]; exact hL.1) (rest := st.map (am_up (am_ad x))) rfl (by rw [hb]; exact hd) (by show 1 ≤ dep + 1; omega) hfw
  have e1 : copied (arrV c0 (S a).2.1 (fun j => Value.int (d a j))) (arrV c1 (S b).2.1 (fun j => Value.int (d b j))) 0 0 (nI k) = arrV c1 (S b).2.1 (fun j => Value.int (va_cpy (d a) (d b) (0 : Int32).toNatClampNeg (0 : Int32).toNatClampNeg (nI k).toNatClampNeg j)) := va_copied (fun z => .int z) c0 c1 (d a) (d b) (by rw [h0, hcl]; omega)
  rw [h0, hcl] at e1
  have e4 : (fun j => Value.int (va_cpy (d a) (d b) 0 0 k j)) = fun j => Value.int (am_cp d a b k b j) := by
    funext j; unfold va_cpy am_cp
    by_cases hj : j < k <;> simp [hj]
  rw [e4] at e1
  rw [e1] at X' step
  have hlt : am_ad x b < H.size := (Array.getElem?_eq_some_iff.mp g1).1
  have hheap : ((T.setVm vm').setCell (am_ad x b) (arrV c1 (S b).2.1 (fun j => Value.int (am_cp d a b k b j)))).heap = H.setIfInBounds (am_ad x b) (arrV c1 (S b).2.1 (fun j => Value.int (am_cp d a b k b j))) := by rw [← hT]; rfl
  have oq : ∀ q : Nat, q ≠ am_ad x b → (H.setIfInBounds (am_ad x b) (arrV c1 (S b).2.1 (fun j => Value.int (am_cp d a b k b j))))[q]? = H[q]? := fun q hq => by simp [Array.getElem?_setIfInBounds, Ne.symm hq]
  have hA : am_A x (am_ad x b) := by show am_sz x ≤ am_ad x b; rw [hF.2.2.2.2.1 b (by omega)]; omega
  obtain ⟨t, a1, b1⟩ := kk p e s m args below meth c _ _ cells slots mc ms ls ⟨⟨hx, hb, hml, hr, hlk, hnm, hown, hts, hF⟩, am_H.put (S' := S) (d' := am_cp d a b k) hF hH hbn (by simp) oq (fun _ _ => rfl) am_cp_ne ((am_own_0 hkb).mpr ⟨c1, show (H.setIfInBounds (am_ad x b) _)[am_ad x b]? = some _ by simp [Array.getElem?_setIfInBounds, hlt], t1⟩), ⟨by simp; exact hS.1, fun q z1 z2 => by
      rw [oq q (fun e => z2 (by rw [e]; exact hA))]
      exact hS.2.1 q z1 z2, fun q hq => by
      rcases List.mem_append.mp hq with h | h
      · exact hS.2.2 q h
      · obtain ⟨z, -, hz⟩ := List.mem_map.mp h
        rw [← hz]
        exact hA⟩, hbc, hbs, hL⟩ _ hheap X'
  exact ⟨t, step t a1, b1⟩
end
section
/-! int[N][M] by one instruction: the outer array, then a row and its place in turn -/
def mm_row (comp : ClassId) (M : Nat) : Cell := arrV comp M (fun _ => .int 0)
def mm_out (c : ClassId) (N h i : Nat) : Cell := arrV c N (fun j => if j < i then .ref (h + 1 + j) else .null)
def mm_st (s : State) (c comp : ClassId) (N M : Nat) : Nat → State
  | 0 => s.pushCell (mm_out c N s.heap.size 0)
  | i + 1 => ((mm_st s c comp N M i).pushCell (mm_row comp M)).setCell s.heap.size (mm_out c N s.heap.size (i + 1))
theorem mm_out_set (c : ClassId) (N h i : Nat) : (mm_out c N h i).setSlot i (.ref (h + 1 + i)) = mm_out c N h (i + 1) := by
  unfold mm_out
  rw [arrV_store]
  congr 1
  funext j
  unfold updV
  by_cases e : j = i
  · subst e; simp
  · by_cases h1 : j < i
    · simp [e, h1, show j < i + 1 by omega]
    · simp [e, h1, show ¬ j < i + 1 by omega]
theorem mm_facts (s : State) (c comp : ClassId) (N M : Nat) : ∀ i, (mm_st s c comp N M i).heap.size = s.heap.size + 1 + i ∧ (mm_st s c comp N M i).heap[s.heap.size]? = some (mm_out c N s.heap.size i) ∧ (mm_st s c comp N M i).vm = s.vm ∧ (mm_st s c comp N M i).slotsUsed = s.slotsUsed + N + i * M
  | 0 => ⟨by simp [mm_st], by simp [mm_st], rfl, by simp [mm_st, mm_out, arrV_size]⟩
  | i + 1 => by
    obtain ⟨h1, h2, h3, h4⟩ := mm_facts s c comp N M i
    have hlt : s.heap.size < (mm_st s c comp N M i).heap.size := by omega
    have h5 : ((mm_st s c comp N M i).pushCell (mm_row comp M)).heap[s.heap.size]? = some (mm_out c N s.heap.size i) := by rw [State.heap_pushCell_of_lt (h := hlt)]; exact h2
    have e1 : (mm_out c N s.heap.size i).slots.size = N := arrV_size _ _ _
    have e2 : (mm_out c N s.heap.size (i + 1)).slots.size = N := arrV_size _ _ _
    have e3 : (mm_row comp M).slots.size = M := arrV_size _ _ _
    refine ⟨?_, State.heap_setCell_self h5, by simp [mm_st, h3], ?_⟩
    · simp [mm_st, State.setCell, h1]; omega
    · rw [mm_st, ← mm_out_set]
      simp [h4, e3, Nat.succ_mul]; omega
theorem mm_top (s : State) (f : JFrame) (c comp : ClassId) (N M : Nat) : ∀ i, mm_st (s.setTop f) c comp N M i = (mm_st s c comp N M i).setTop f
  | 0 => rfl
  | i + 1 => by simp only [mm_st, mm_top s f c comp N M i, State.heap_setTop, State.pushCell_setTop, State.setCell_setTop]
theorem mm_old (s : State) (c comp : ClassId) (N M : Nat) {a : Nat} (ha : a < s.heap.size) : ∀ i, (mm_st s c comp N M i).heap[a]? = s.heap[a]?
  | 0 => State.heap_pushCell_of_lt _ _ ha
  | i + 1 => by
    have h1 := (mm_facts s c comp N M i).1
    have hlt : a < (mm_st s c comp N M i).heap.size := by rw [h1]; omega
    rw [mm_st, State.heap_setCell_other (Nat.ne_of_gt ha), State.heap_pushCell_of_lt (h := hlt)]
    exact mm_old s c comp N M ha i
theorem mm_rows (s : State) (c comp : ClassId) (N M : Nat) : ∀ i j, j < i → (mm_st s c comp N M i).heap[s.heap.size + 1 + j]? = some (mm_row comp M)
  | 0, _, h => absurd h (Nat.not_lt_zero _)
  | i + 1, j, h => by
    have h1 := (mm_facts s c comp N M i).1
    rw [mm_st, State.heap_setCell_other (show s.heap.size ≠ s.heap.size + 1 + j by omega)]
    by_cases hj : j < i
    · have hlt : s.heap.size + 1 + j < (mm_st s c comp N M i).heap.size := by rw [h1]; omega
      rw [State.heap_pushCell_of_lt (h := hlt)]
      exact mm_rows s c comp N M i j hj
    · have e : j = i := by omega
      subst e
      rw [← h1]
      exact State.heap_pushCell_size _ _
section MMW
variable {E : CtlPost} {e : Env} {dd : Bool} {acts : List Action} {s : State}
theorem mm_new {c comp : ClassId} {k : Class} {type : FieldType} {len : Nat} {init : Value} (hk : s.vm.classes[c]? = some k) (hkind : k.kind = .array comp type)
    (hl : ¬ len > e.platform.arrayLengthLimit) (hh : ¬ len * componentBytes type > e.platform.maxHeapBytes) (hfit : fits type init = true) (hdef : init.isDefault = true) {Q : Addr → Pre}
    (h1 : s.heap.size < e.platform.maxCells) (h2 : s.slotsUsed + len ≤ e.platform.maxSlots)
    (hq : Q s.heap.size dd acts (s.pushCell (arrV c len (fun _ => init)))) : wp (Jvm.newArray c len init) Q E e dd acts s := by
  have hfits : ∀ i v, (Array.replicate len init)[i]? = some v → s.fitsSlot c .none i v = true := by
    intro i v hv
    rw [Array.getElem?_replicate] at hv
    split at hv
    · cases hv; simp [State.fitsSlot, State.slotType?, hk, hkind, hfit]
    · cases hv
  have hall : ((Array.replicate len init).all (·.isDefault)) = true := by
    rw [Array.all_replicate]; split <;> simp [hdef]
  have hda : allocActs (Array.replicate len init) s.heap.size acts = acts := by unfold allocActs; rw [if_pos hall]
  rw [← arrV_new] at hq
  simp only [Jvm.newArray, Jvm.arrayFits, wp_bind', W.ask, W.ite, hl, if_false, wp_pure', W.theClass, hk, hkind, hh, W.alloc, W.stop, Option.some.injEq, exists_eq_left', Array.size_replicate, hda]
  rw [if_neg (by omega)]
  exact ⟨h1, h2, hfits, hq⟩
theorem mm_make1 {comp cc : ClassId} {kc : Class} {m : Int32} (hkc : s.vm.classes[comp]? = some kc) (hkindc : kc.kind = .array cc .int) (hm : ¬ m < 0)
    (hl : ¬ m.toNatClampNeg > e.platform.arrayLengthLimit) (hh : ¬ m.toNatClampNeg * componentBytes .int > e.platform.maxHeapBytes)
    (h1 : s.heap.size < e.platform.maxCells) (h2 : s.slotsUsed + m.toNatClampNeg ≤ e.platform.maxSlots)
    {Q : Addr → Pre} (hq : Q s.heap.size dd acts (s.pushCell (mm_row comp m.toNatClampNeg))) : wp (Op.multianewarray.make comp [m]) Q E e dd acts s := by
  rw [Op.multianewarray.make]
  simp only [wp_bind', W.ite, hm, if_false, wp_pure', W.theClass, hkc, hkindc, Option.some.injEq, exists_eq_left']
  exact mm_new hkc hkindc hl hh rfl rfl h1 h2 hq
theorem mm_make2 {c comp cc : ClassId} {k kc : Class} {n m : Int32} {N M : Nat} (hN : n.toNatClampNeg = N) (hM : m.toNatClampNeg = M) (hk : s.vm.classes[c]? = some k) (hkind : k.kind = .array comp (.array .int))
    (hkc : s.vm.classes[comp]? = some kc) (hkindc : kc.kind = .array cc .int) (hn : ¬ n < 0) (hm : ¬ m < 0)
    (hl1 : ¬ N > e.platform.arrayLengthLimit) (hh1 : ¬ N * componentBytes (.array .int) > e.platform.maxHeapBytes) (hl2 : ¬ M > e.platform.arrayLengthLimit) (hh2 : ¬ M * componentBytes .int > e.platform.maxHeapBytes)
    (hc : s.heap.size + 1 + N ≤ e.platform.maxCells) (hs : s.slotsUsed + N + N * M ≤ e.platform.maxSlots)
    {Q : Addr → Pre} (hq : ∀ d' acts', Q s.heap.size d' acts' (mm_st s c comp N M N)) : wp (Op.multianewarray.make c [n, m]) Q E e dd acts s := by
  subst hN; subst hM
  have hfind : ([m].find? (· < 0)) = none := by simp [hm]
  rw [Op.multianewarray.make]
  simp only [wp_bind', W.ite, hn, if_false, wp_pure', W.theClass, hk, hkind, Option.some.injEq, exists_eq_left']
  refine mm_new hk hkind hl1 hh1 rfl rfl (by omega) (by have := Nat.zero_le (n.toNatClampNeg * m.toNatClampNeg); omega) ?_
  simp only [hfind]
  rw [ite_self, wp_bind', Std.Legacy.Range.forIn_eq_forIn_range']
  have hsz : ([:n.toNatClampNeg] : Std.Legacy.Range).size = n.toNatClampNeg := by simp [Std.Legacy.Range.size]
  rw [hsz]
  have e0 : s.pushCell (arrV c n.toNatClampNeg (fun _ => .null)) = mm_st s c comp n.toNatClampNeg m.toNatClampNeg 0 := by
    show _ = s.pushCell (mm_out _ _ _ 0)
    unfold mm_out
    simp
  rw [e0]
  show wp (forIn (List.range' 0 n.toNatClampNeg 1) PUnit.unit _) _ E e dd acts _
  refine wp_forIn_inv (fun rest s' => ∃ i, i ≤ n.toNatClampNeg ∧ rest = List.range' i (n.toNatClampNeg - i) ∧ s' = mm_st s c comp n.toNatClampNeg m.toNatClampNeg i) _ _ ⟨0, Nat.zero_le _, rfl, rfl⟩ ?_ ?_
  · rintro y rest s' d' acts' Q' ⟨i, hi, hl, rfl⟩ hnext
    have hlt : i < n.toNatClampNeg := by
      by_cases h : i < n.toNatClampNeg
      · exact h
      · rw [show n.toNatClampNeg - i = 0 by omega] at hl; simp at hl
    rw [show n.toNatClampNeg - i = (n.toNatClampNeg - (i + 1)) + 1 by omega, List.range'_succ] at hl
    obtain ⟨h1, hrest⟩ := List.cons.inj hl
    subst h1
    obtain ⟨f1, f2, f3, f4⟩ := mm_facts s c comp n.toNatClampNeg m.toNatClampNeg y
    have o3 : (mm_out c n.toNatClampNeg s.heap.size y).slots.size = n.toNatClampNeg := arrV_size _ _ _
    have hmul : y * m.toNatClampNeg + m.toNatClampNeg ≤ n.toNatClampNeg * m.toNatClampNeg := by
      have := Nat.mul_le_mul_right m.toNatClampNeg (show y + 1 ≤ n.toNatClampNeg from hlt)
      rw [Nat.succ_mul] at this; exact this
    simp only [wp_bind']
    refine mm_make1 (by rw [f3]; exact hkc) hkindc hm hl2 hh2 (by rw [f1]; omega) (by rw [f4]; omega) ?_
    have hlt0 : s.heap.size < (mm_st s c comp n.toNatClampNeg m.toNatClampNeg y).heap.size := by rw [f1]; omega
    simp only [wp_bind', W.writeLoc, wp_pure']
    refine ⟨mm_out c n.toNatClampNeg s.heap.size y, by rw [State.heap_pushCell_of_lt (h := hlt0)]; exact f2, by simp [mm_out, arrV], by rw [o3]; exact hlt, ?_, hnext _ _ _ ⟨y + 1, hlt, hrest, ?_⟩⟩
    · show State.fitsSlot _ c .none _ _ = true
      simp [State.fitsSlot, State.slotType?, f3, hk, hkind]
      rfl
    · rw [f1, mm_out_set]; rfl
  · rintro s' d' acts' ⟨i, hi, hl, rfl⟩
    have hiN : i = n.toNatClampNeg := by
      by_cases h : i < n.toNatClampNeg
      · rw [show n.toNatClampNeg - i = (n.toNatClampNeg - (i + 1)) + 1 by omega, List.range'_succ] at hl; cases hl
      · omega
    subst hiN
    simp only [wp_pure']
    exact hq _ _
end MMW
section MMS
variable {p : Program} {l : Launch} {e : Env} {R : Room} {s : State} {m : MethodId} {args : Array Value} {below : List Frame} {meth : Method} {c : Code} {T : State} {locs : List Loc} {cells slots : Nat}
theorem mm_stand (X : Stand p l e R s m args below meth c T locs cells slots) (cA comp : ClassId) (N M : Nat) :
    ∀ i, Stand p l e R s m args below meth c (mm_st T cA comp N M i) (locs ++ (List.range i).map fun j => ⟨T.heap.size, j⟩) (cells + 1 + i) (slots + N + i * M)
  | 0 => by
    have h := X.pushed (mm_out cA N T.heap.size 0)
    rw [show (mm_out cA N T.heap.size 0).slots.size = N from arrV_size _ _ _] at h
    simpa [mm_st] using h
  | i + 1 => by
    have Xi := mm_stand X cA comp N M i
    obtain ⟨f1, f2, f3, f4⟩ := mm_facts T cA comp N M i
    have hlt0 : T.heap.size < (mm_st T cA comp N M i).heap.size := by rw [f1]; omega
    have hcell : ((mm_st T cA comp N M i).pushCell (mm_row comp M)).heap[T.heap.size]? = some (mm_out cA N T.heap.size i) := by rw [State.heap_pushCell_of_lt (h := hlt0)]; exact f2
    have h := (Xi.pushed (mm_row comp M)).stored hcell i (.ref (T.heap.size + 1 + i))
    rw [mm_out_set, show (mm_row comp M).slots.size = M from arrV_size _ _ _] at h
    have e2 : (locs ++ (List.range (i + 1)).map fun j => (⟨T.heap.size, j⟩ : Loc)) = (locs ++ (List.range i).map fun j => (⟨T.heap.size, j⟩ : Loc)) ++ [⟨T.heap.size, i⟩] := by simp [List.range_succ, List.append_assoc]
    have e3 : slots + N + (i + 1) * M = slots + N + i * M + M := by rw [Nat.succ_mul]; omega
    rw [e2, e3]
    exact h
end MMS
end
section
section MMX
variable {p : Program} {l : Launch} {e : Env} {R : Room} {s : State} {m : MethodId} {args : Array Value} {below : List Frame} {meth : Method} {c : Code} {H : Heap} {locs : List Loc} {cells slots : Nat} {Q : State → Prop}
set_option maxHeartbeats 1000000 in
theorem mm_W {cc : ByteArray} (hexec : p.tables.exec = Jvm.exec) (hb : c.code = cc) {own : String} {index : Nat} (hown : s.vm.findClass own = some m.cls)
    (hclink : (Cond.classLink own index ("[" ++ (FieldType.array .int).toString)).before args s = true) (hover : (Cond.arrayOver (.array .int)).before args s = true) (harr : (Cond.arrayClass .int).before args s = true)
    {pc : Nat} {ls : Array Slot} {rest : List Value} {n k : Int32} {N M : Nat} (hN : n.toNatClampNeg = N) (hM : k.toNatClampNeg = M) (hn : ¬ n < 0) (hk : ¬ k < 0) (hN4 : N ≤ 100000) (hM4 : M ≤ 100000)
    (hcells : cells + (1 + N) ≤ R.cells) (hslots : slots + (N + N * M) ≤ R.slots) (hdg : decode cc pc = .ok (.multianewarray index 2, 4))
    (kk : ∀ (H' : Heap) (cA comp : ClassId), H'.size = H.size + 1 + N → H'[H.size]? = some (arrV cA N (fun j => if j < N then .ref (H.size + 1 + j) else .null)) → (∀ j, j < N → H'[H.size + 1 + j]? = some (arrV comp M (fun _ => .int 0))) → (∀ q, q < H.size → H'[q]? = H[q]?) → ArrOfT s cA (.array .int) → ArrOfT s comp .int →
      W p l e R s m args below meth c H' (locs ++ (List.range N).map fun j => ⟨H.size, j⟩) (cells + 1 + N) (slots + N + N * M) Q (F0 m (pc + 4) ls (.ref H.size :: rest))) :
    W p l e R s m args below meth c H locs cells slots Q (F0 m pc ls (.int k :: .int n :: rest)) := by
  intro T hT X
  subst hT; subst hb
  have hpl : e.platform.magicAccessors = ({} : Platform).magicAccessors := by rw [X.admits.platform]
  obtain ⟨comp, cA, kA, hcomp, -, hkA, hkindA, hnameA⟩ := arrayOverA_spec hover
  obtain ⟨comp', kC, cc, hcomp', hkC, hkindC⟩ := Cond.arrayClass_spec harr
  have ecomp : comp' = comp := Option.some.inj (hcomp'.symm.trans hcomp)
  subst ecomp
  obtain ⟨c0, hfc0, hcl⟩ := Cond.classLink_spec hown hclink e.platform hpl
  cases hnameA.symm.trans hfc0
  obtain ⟨hg₁, hwarm₁, hready₁⟩ := State.classEntry (e := e) X.warmed hcl
  generalize T.vm.noted m.cls index (.cls cA) = vm₁ at hg₁ hwarm₁ hready₁
  have hal : s.vm.Alike vm₁ := hwarm₁.alike
  obtain ⟨kA₁, hkA₁, heA⟩ := hal.2.2 _ _ hkA
  obtain ⟨kC₁, hkC₁, heC⟩ := hal.2.2 _ _ hkC
  have hkindA₁ : kA₁.kind = .array comp' (.array .int) := by rw [heA]; exact hkindA
  have hkindC₁ : kC₁.kind = .array cc .int := by rw [heC]; exact hkindC
  have X₁ := X.noted hwarm₁
  obtain ⟨hr1, hr2⟩ := X.roomAbove hcells hslots
  have XF := mm_stand X₁ cA comp' N M N
  obtain ⟨f1, f2, f3, f4⟩ := mm_facts (T.setVm vm₁) cA comp' N M N
  obtain ⟨t', a1, b1⟩ := kk (mm_st (T.setVm vm₁) cA comp' N M N).heap cA comp' f1 f2 (fun j hj => mm_rows (T.setVm vm₁) cA comp' N M N j hj) (fun q hq => mm_old (T.setVm vm₁) cA comp' N M hq N)
    (fun n z => ⟨fun k h => (by cases h), kA, hkA, comp', hkindA⟩) (fun n z => ⟨fun k h => (by cases h), kC, hkC, cc, hkindC⟩) _ rfl XF
  refine ⟨t', ?_, b1⟩
  have hl1 : ¬ N > e.platform.arrayLengthLimit := by rw [Launch.admits_arrayLengthLimit X.admits]; omega
  have hh1 : ¬ N * componentBytes (.array .int) > e.platform.maxHeapBytes := by
    rw [Launch.admits_maxHeapBytes X.admits]; show ¬ N * 4 > 536870912; omega
  have hl2 : ¬ M > e.platform.arrayLengthLimit := by rw [Launch.admits_arrayLengthLimit X.admits]; omega
  have hh2 : ¬ M * componentBytes .int > e.platform.maxHeapBytes := by rw [Launch.admits_maxHeapBytes X.admits]; show ¬ M * 4 > 536870912; omega
  jvm_step X.here [hexec, hdg]
  simp only [Op.multianewarray.sem, wp_bind', W.resolveClassAt_links (State.method?_setTop (F0 m pc ls (.int k :: .int n :: rest)) X.here.top) hg₁]
  rw [W.popN, if_neg (by decide)]
  refine ⟨F0 m pc ls (.int k :: .int n :: rest), State.topJava?_setTop' (s := T.setVm vm₁) _ X.here.top, [.int n, .int k], rest, rfl, rfl, ?_⟩
  simp only [List.mapM_cons, List.mapM_nil, wp_bind', wp_pure']
  refine mm_make2 (k := kA₁) (kc := kC₁) (comp := comp') (cc := cc) hN hM hkA₁ hkindA₁ hkC₁ hkindC₁ hn hk hl1 hh1 hl2 hh2 (by show T.heap.size + 1 + _ ≤ _; omega) (by show T.slotsUsed + _ + _ ≤ _; omega) (fun d' acts' => ?_)
  have eS : ((T.setTop (F0 m pc ls (.int k :: .int n :: rest))).setVm vm₁).setTop (F0 m pc ls rest) = (T.setVm vm₁).setTop (F0 m pc ls rest) := by
    show ((T.setVm vm₁).setTop _).setTop _ = _
    rw [State.setTop_setTop]
  rw [show ({ F0 m pc ls (.int k :: .int n :: rest) with stack := rest } : JFrame) = F0 m pc ls rest from rfl, eS, mm_top]
  simp only [wp_bind', W.mark, W.pushRef, State.topJava?_setTop' _ XF.here.top, Option.some.injEq, exists_eq_left', State.setTop_setTop, State.heap_setTop]
  intro acts
  simp [jvm, XF.here.top]
  exact a1
end MMX
def am_ms (S : am_S) (n N M : Nat) : am_S := fun b => if b = n then (2, N, fun j => if j < N then some (n + 1 + j) else none) else if n < b ∧ b ≤ n + N then (0, M, fun _ => none) else S b
def am_md (d : am_D) (n N : Nat) : am_D := fun b => if n < b ∧ b ≤ n + N then (fun _ => 0) else d b
theorem am_multi {l : Launch} {C : am_Cfg} {x : am_X} {dep bc bs mi pc : Nat} {L : List (Option Value)} {st : List Value} {S : am_S} {nn : Nat} {d : am_D} {Q : Option Value → am_S → Nat → am_D → Prop} {idx : Nat} {u v : Int32} (N M : Nat) (hd : decode (am_mt C mi).2.1 pc = .ok (.multianewarray idx 2, 4)) (hl : Cond.classLink (am_mt C mi).1.cls idx ("[" ++ (FieldType.array .int).toString) ∈ am_ts C) (hw : Cond.arrayClass .int ∈ am_ts C) (hw2 : Cond.arrayOver (.array .int) ∈ am_ts C) (hu : u = nI N) (hv : v = nI M) (hN : N ≤ 500) (hM : M ≤ 100000) (hn : nn + 1 + N ≤ 1000)
    (kk : am_W l C x dep bc bs mi (pc + 4) L (.ref nn :: st) (am_ms S nn N M) (nn + 1 + N) (am_md d nn N) Q) : am_W l C x dep (bc + (1 + N)) (bs + (N + N * M)) mi pc L (.int v :: .int u :: st) S nn d Q := by
  intro p e s m args below meth c H locs cells slots mc ms ls hC
  obtain ⟨⟨hx, hb, hml, hr, hlk, hnm, hown, hts, hF⟩, hH, hS, hbc, hbs, hL⟩ := hC
  subst hu; subst hv
  have hq : ∀ j, nn + j < 1000 → am_ad x (nn + j) = H.size + j := fun j hj => by rw [hF.2.2.2.2.1 _ hj, hH.2.1]; omega
  have hq0 : am_ad x nn = H.size := hq 0 (by omega)
  refine mm_W (N := N) (M := M) hx hb hown (hts _ hl) (hts _ hw2) (hts _ hw) (nI_clamp (by omega)) (nI_clamp (by omega)) (nI_pos (by omega)) (nI_pos (by omega)) (by omega) hM (by show cells + (1 + N) ≤ mc; omega) (by show slots + (N + N * M) ≤ ms; omega) hd fun H' cA comp z1 z2 z3 z4 hA hI => ?_
  have hg := kk p e s m args below meth c H' (locs ++ (List.range N).map fun j => ⟨H.size, j⟩) (cells + 1 + N) (slots + N + N * M) mc ms ls ⟨⟨hx, hb, hml, hr, hlk, hnm, hown, hts, hF⟩, ⟨fun b hb' => ?_, by rw [z1, hH.2.1]; omega, hn⟩, ⟨by have := hS.1; omega, fun q h1 h2 => (z4 q (Nat.lt_of_lt_of_le h1 hS.1)).trans (hS.2.1 q h1 h2), fun q hq' => ?_⟩, by omega, by omega, hL⟩
  · rw [List.map_cons] at hg
    have e1 : am_up (am_ad x) (.ref nn) = .ref H.size := by show Value.ref (am_ad x nn) = _; rw [hq0]
    rw [e1] at hg
    exact hg
  · by_cases e1 : b = nn
    · subst e1
      refine ⟨fun z => by omega, fun _ => (am_own_2 (by unfold am_ms; rw [if_pos rfl])).mpr ⟨cA, ?_, hA⟩⟩
      rw [hq0, z2]
      unfold am_ms
      rw [if_pos rfl]
      congr 2
      funext j
      dsimp only
      by_cases hj : j < N
      · rw [if_pos hj, if_pos hj]
        show Value.ref (H.size + 1 + j) = Value.ref (am_ad x (b + 1 + j))
        rw [show b + 1 + j = b + (1 + j) by omega, hq (1 + j) (by omega), show H.size + 1 + j = H.size + (1 + j) by omega]
      · rw [if_neg hj, if_neg hj]; rfl
    · by_cases e2 : nn < b ∧ b ≤ nn + N
      · have e3 : am_ms S nn N M b = (0, M, fun _ => none) := by unfold am_ms; rw [if_neg e1, if_pos e2]
        have e4 : am_md d nn N b = fun _ => 0 := by unfold am_md; rw [if_pos e2]
        refine ⟨fun z => by omega, fun _ => (am_own_0 (by rw [e3])).mpr ⟨comp, ?_, hI⟩⟩
        rw [e3, e4]
        obtain ⟨j, rfl⟩ : ∃ j, b = nn + (1 + j) := ⟨b - nn - 1, by omega⟩
        rw [hq (1 + j) (by omega), show H.size + (1 + j) = H.size + 1 + j by omega]
        exact z3 j (by omega)
      · have e3 : am_ms S nn N M b = S b := by unfold am_ms; rw [if_neg e1, if_neg e2]
        have e4 : am_md d nn N b = d b := by unfold am_md; rw [if_neg e2]
        have hb2 : b < nn ∨ (1000 ≤ b ∧ b < 1002) := by omega
        refine ((hH.1 b hb2).kept (z4 _ ?_)).same e3 e4
        rcases hb2 with z | z
        · rw [hF.2.2.2.2.1 b (by omega), hH.2.1]; omega
        · have := hF.2.2.2.2.2 b z.1
          rw [hH.2.1]; omega
  · rcases List.mem_append.mp hq' with h | h
    · exact hS.2.2 q h
    · obtain ⟨j, -, rfl⟩ := List.mem_map.mp h
      show am_sz x ≤ H.size
      rw [hH.2.1]; omega
end
section
/-! ints by their numbers -/
def zI (z : Int) : Int32 := Int32.ofInt z
theorem zI_add (a b : Int) : zI a + zI b = zI (a + b) := (Int32.ofInt_add a b).symm
theorem zI_sub (a b : Int) : zI a - zI b = zI (a - b) := (Int32.ofInt_sub a b).symm
theorem zI_mul (a b : Int) : zI a * zI b = zI (a * b) := (Int32.ofInt_mul a b).symm
theorem zI_neg (a : Int) : -zI a = zI (-a) := (Int32.ofInt_neg a).symm
theorem zI_toInt {a : Int} (h1 : -2147483648 ≤ a) (h2 : a < 2147483648) : (zI a).toInt = a := Int32.toInt_ofInt_of_le (by omega) (by omega)
theorem zI_of (y : Int32) : y = zI y.toInt := (Int32.ofInt_toInt y).symm
theorem zI_in (y : Int32) : -2147483648 ≤ y.toInt ∧ y.toInt < 2147483648 := ⟨by have := Int32.le_toInt y; omega, by have := Int32.toInt_lt y; omega⟩
theorem nI_zI (n : Nat) : nI n = zI n := Int32.ofInt_eq_ofNat.symm
theorem zI_le {a b : Int} (h1 : -2147483648 ≤ a) (h2 : a < 2147483648) (h3 : -2147483648 ≤ b) (h4 : b < 2147483648) : zI a ≤ zI b ↔ a ≤ b := by
  rw [Int32.le_iff_toInt_le, zI_toInt h1 h2, zI_toInt h3 h4]
theorem zI_lt {a b : Int} (h1 : -2147483648 ≤ a) (h2 : a < 2147483648) (h3 : -2147483648 ≤ b) (h4 : b < 2147483648) : zI a < zI b ↔ a < b := by
  rw [Int32.lt_iff_toInt_lt, zI_toInt h1 h2, zI_toInt h3 h4]
theorem zI_eq {a b : Int} (h1 : -2147483648 ≤ a) (h2 : a < 2147483648) (h3 : -2147483648 ≤ b) (h4 : b < 2147483648) : zI a = zI b ↔ a = b := by
  rw [← Int32.toInt_inj, zI_toInt h1 h2, zI_toInt h3 h4]
theorem zI_div {a b : Int} (h1 : 0 ≤ a) (h2 : a < 2147483648) (h3 : 0 < b) (h4 : b < 2147483648) : zI a / zI b = zI (a / b) := by
  have h5 : 0 ≤ a / b := Int.ediv_nonneg h1 (by omega)
  have h6 : a / b ≤ a := Int.ediv_le_self b h1
  rw [← Int32.toInt_inj, Int32.toInt_div_of_ne_right _ _ (fun h => by
    have := congrArg Int32.toInt h
    rw [zI_toInt (by omega) h4] at this
    have e : (-1 : Int32).toInt = -1 := by decide
    rw [e] at this; omega), zI_toInt (by omega) h2, zI_toInt (by omega) h4, zI_toInt (by omega) (by omega), Int.tdiv_eq_ediv_of_nonneg h1]
theorem zI_rem {a b : Int} (h1 : 0 ≤ a) (h2 : a < 2147483648) (h3 : 0 < b) (h4 : b < 2147483648) : zI a - zI a / zI b * zI b = zI (a % b) := by
  rw [zI_div h1 h2 h3 h4, zI_mul, zI_sub, Int.emod_def, Int.mul_comm]
theorem zI_lit (n : Nat) : (OfNat.ofNat n : Int32) = zI n := nI_zI n
end
section
/-! the sets within a set, as the loop part = (part - 1) & set goes through them; the greatest sum over them -/
def sb_ch (s : Nat) : Nat → Nat → List Nat
  | 0, _ => []
  | k + 1, p => if p = 0 then [] else p :: sb_ch s k ((p - 1) &&& s)
def jn_in (f g : Nat → Int) (s : Nat) : Nat → Nat → Int → Int
  | 0, _, m => m
  | k + 1, p, m => if p = 0 then m else jn_in f g s k ((p - 1) &&& s) (max m (f p + g (s - p)))
def jn (f g : Nat → Int) (s : Nat) : Int := jn_in f g s 64 s (f 0 + g s)
theorem sb_all : (List.range 64).all (fun s => (List.range 64).all (fun p => decide (p &&& s = p) == (decide (p = 0) || (sb_ch s 64 s).contains p))) = true := by decide +kernel
theorem sb_mem {s p : Nat} (hs : s < 64) (hp : p < 64) : p &&& s = p ↔ (p = 0 ∨ p ∈ sb_ch s 64 s) := by
  have h := List.all_eq_true.mp (List.all_eq_true.mp sb_all s (List.mem_range.mpr hs)) p (List.mem_range.mpr hp)
  simp only [beq_iff_eq] at h
  by_cases h1 : p &&& s = p
  · rw [decide_eq_true h1] at h
    have h2 := h.symm
    simp only [Bool.or_eq_true, decide_eq_true_eq, List.contains_iff_mem] at h2
    exact ⟨fun _ => h2, fun _ => h1⟩
  · rw [decide_eq_false h1] at h
    have h2 := h.symm
    simp only [Bool.or_eq_false_iff, decide_eq_false_iff_not] at h2
    refine ⟨fun z => absurd z h1, fun z => ?_⟩
    rcases z with z | z
    · exact absurd z h2.1
    · have := List.contains_iff_mem.mpr z
      rw [h2.2] at this; cases this
theorem jn_in_ge (f g : Nat → Int) (s : Nat) : ∀ (k p : Nat) (m : Int), m ≤ jn_in f g s k p m ∧ ∀ q ∈ sb_ch s k p, f q + g (s - q) ≤ jn_in f g s k p m
  | 0, p, m => ⟨Int.le_refl _, fun q hq => by unfold sb_ch at hq; cases hq⟩
  | k + 1, p, m => by
    unfold jn_in sb_ch
    by_cases h : p = 0
    · rw [if_pos h, if_pos h]; exact ⟨Int.le_refl _, fun q hq => by cases hq⟩
    · rw [if_neg h, if_neg h]
      obtain ⟨h1, h2⟩ := jn_in_ge f g s k ((p - 1) &&& s) (max m (f p + g (s - p)))
      refine ⟨by omega, fun q hq => ?_⟩
      rcases List.mem_cons.mp hq with rfl | hq
      · omega
      · exact h2 q hq
theorem jn_in_is (f g : Nat → Int) (s : Nat) : ∀ (k p : Nat) (m : Int), jn_in f g s k p m = m ∨ ∃ q ∈ sb_ch s k p, jn_in f g s k p m = f q + g (s - q)
  | 0, p, m => Or.inl rfl
  | k + 1, p, m => by
    unfold jn_in sb_ch
    by_cases h : p = 0
    · rw [if_pos h]; exact Or.inl rfl
    · rw [if_neg h, if_neg h]
      rcases jn_in_is f g s k ((p - 1) &&& s) (max m (f p + g (s - p))) with e | ⟨q, hq, e⟩
      · rw [e]
        by_cases h3 : m ≤ f p + g (s - p)
        · exact Or.inr ⟨p, List.mem_cons_self, by omega⟩
        · exact Or.inl (by omega)
      · exact Or.inr ⟨q, List.mem_cons_of_mem _ hq, e⟩
theorem jn_ge (f g : Nat → Int) {s p : Nat} (hs : s < 64) (hp : p &&& s = p) : f p + g (s - p) ≤ jn f g s := by
  have hp64 : p < 64 := by rw [← hp]; exact Nat.lt_of_le_of_lt Nat.and_le_right hs
  unfold jn
  obtain ⟨h1, h2⟩ := jn_in_ge f g s 64 s (f 0 + g s)
  rcases (sb_mem hs hp64).mp hp with h | h
  · subst h; simpa using h1
  · exact h2 p h
theorem sb_lt {s : Nat} (hs : s < 64) : ∀ (k p q : Nat), p < 64 → q ∈ sb_ch s k p → q < 64
  | 0, p, q, _, h => by unfold sb_ch at h; cases h
  | k + 1, p, q, hp, h => by
    unfold sb_ch at h
    split at h
    · cases h
    · rcases List.mem_cons.mp h with rfl | h
      · exact hp
      · exact sb_lt hs k _ q (Nat.lt_of_le_of_lt Nat.and_le_right hs) h
theorem jn_is (f g : Nat → Int) {s : Nat} (hs : s < 64) : ∃ p, p &&& s = p ∧ jn f g s = f p + g (s - p) := by
  unfold jn
  rcases jn_in_is f g s 64 s (f 0 + g s) with e | ⟨q, hq, e⟩
  · exact ⟨0, by simp, by rw [e]; simp⟩
  · exact ⟨q, (sb_mem hs (sb_lt hs 64 s q hs hq)).mpr (Or.inr hq), e⟩
end
