/-! int[N][M] by one instruction: the outer array, then a row and its place in turn -/
def mm_row (comp : ClassId) (M : Nat) : Cell := arrV comp M (fun _ => .int 0)
def mm_out (c : ClassId) (N h i : Nat) : Cell := arrV c N (fun j => if j < i then .ref (h + 1 + j) else .null)
def mm_st (s : State) (c comp : ClassId) (N M : Nat) : Nat → State
  | 0 => s.pushCell (mm_out c N s.heap.size 0)
  | i + 1 => ((mm_st s c comp N M i).pushCell (mm_row comp M)).setCell s.heap.size (mm_out c N s.heap.size (i + 1))
theorem mm_out_set (c : ClassId) (N h i : Nat) : (mm_out c N h i).setSlot i (.ref (h + 1 + i)) = mm_out c N h (i + 1) := by
  unfold mm_out
  rw [arrV_store]
  congr 1
  funext j
  unfold updV
  by_cases e : j = i
  · subst e; simp
  · by_cases h1 : j < i
    · simp [e, h1, show j < i + 1 by omega]
    · simp [e, h1, show ¬ j < i + 1 by omega]
theorem mm_facts (s : State) (c comp : ClassId) (N M : Nat) : ∀ i, (mm_st s c comp N M i).heap.size = s.heap.size + 1 + i ∧ (mm_st s c comp N M i).heap[s.heap.size]? = some (mm_out c N s.heap.size i) ∧ (mm_st s c comp N M i).vm = s.vm ∧ (mm_st s c comp N M i).slotsUsed = s.slotsUsed + N + i * M
  | 0 => ⟨by simp [mm_st], by simp [mm_st], rfl, by simp [mm_st, mm_out, arrV_size]⟩
  | i + 1 => by
    obtain ⟨h1, h2, h3, h4⟩ := mm_facts s c comp N M i
    have hlt : s.heap.size < (mm_st s c comp N M i).heap.size := by omega
    have h5 : ((mm_st s c comp N M i).pushCell (mm_row comp M)).heap[s.heap.size]? = some (mm_out c N s.heap.size i) := by rw [State.heap_pushCell_of_lt (h := hlt)]; exact h2
    have e1 : (mm_out c N s.heap.size i).slots.size = N := arrV_size _ _ _
    have e2 : (mm_out c N s.heap.size (i + 1)).slots.size = N := arrV_size _ _ _
    have e3 : (mm_row comp M).slots.size = M := arrV_size _ _ _
    refine ⟨?_, State.heap_setCell_self h5, by simp [mm_st, h3], ?_⟩
    · simp [mm_st, State.setCell, h1]; omega
    · rw [mm_st, ← mm_out_set]
      simp [h4, e3, Nat.succ_mul]; omega
theorem mm_top (s : State) (f : JFrame) (c comp : ClassId) (N M : Nat) : ∀ i, mm_st (s.setTop f) c comp N M i = (mm_st s c comp N M i).setTop f
  | 0 => rfl
  | i + 1 => by simp only [mm_st, mm_top s f c comp N M i, State.heap_setTop, State.pushCell_setTop, State.setCell_setTop]
theorem mm_old (s : State) (c comp : ClassId) (N M : Nat) {a : Nat} (ha : a < s.heap.size) : ∀ i, (mm_st s c comp N M i).heap[a]? = s.heap[a]?
  | 0 => State.heap_pushCell_of_lt _ _ ha
  | i + 1 => by
    have h1 := (mm_facts s c comp N M i).1
    have hlt : a < (mm_st s c comp N M i).heap.size := by rw [h1]; omega
    rw [mm_st, State.heap_setCell_other (Nat.ne_of_gt ha), State.heap_pushCell_of_lt (h := hlt)]
    exact mm_old s c comp N M ha i
theorem mm_rows (s : State) (c comp : ClassId) (N M : Nat) : ∀ i j, j < i → (mm_st s c comp N M i).heap[s.heap.size + 1 + j]? = some (mm_row comp M)
  | 0, _, h => absurd h (Nat.not_lt_zero _)
  | i + 1, j, h => by
    have h1 := (mm_facts s c comp N M i).1
    rw [mm_st, State.heap_setCell_other (show s.heap.size ≠ s.heap.size + 1 + j by omega)]
    by_cases hj : j < i
    · have hlt : s.heap.size + 1 + j < (mm_st s c comp N M i).heap.size := by rw [h1]; omega
      rw [State.heap_pushCell_of_lt (h := hlt)]
      exact mm_rows s c comp N M i j hj
    · have e : j = i := by omega
      subst e
      rw [← h1]
      exact State.heap_pushCell_size _ _
section MMW
variable {E : CtlPost} {e : Env} {dd : Bool} {acts : List Action} {s : State}
theorem mm_new {c comp : ClassId} {k : Class} {type : FieldType} {len : Nat} {init : Value} (hk : s.vm.classes[c]? = some k) (hkind : k.kind = .array comp type)
    (hl : ¬ len > e.platform.arrayLengthLimit) (hh : ¬ len * componentBytes type > e.platform.maxHeapBytes) (hfit : fits type init = true) (hdef : init.isDefault = true) {Q : Addr → Pre}
    (h1 : s.heap.size < e.platform.maxCells) (h2 : s.slotsUsed + len ≤ e.platform.maxSlots)
    (hq : Q s.heap.size dd acts (s.pushCell (arrV c len (fun _ => init)))) : wp (Jvm.newArray c len init) Q E e dd acts s := by
  have hfits : ∀ i v, (Array.replicate len init)[i]? = some v → s.fitsSlot c .none i v = true := by
    intro i v hv
    rw [Array.getElem?_replicate] at hv
    split at hv
    · cases hv; simp [State.fitsSlot, State.slotType?, hk, hkind, hfit]
    · cases hv
  have hall : ((Array.replicate len init).all (·.isDefault)) = true := by
    rw [Array.all_replicate]; split <;> simp [hdef]
  have hda : allocActs (Array.replicate len init) s.heap.size acts = acts := by unfold allocActs; rw [if_pos hall]
  rw [← arrV_new] at hq
  simp only [Jvm.newArray, Jvm.arrayFits, wp_bind', W.ask, W.ite, hl, if_false, wp_pure', W.theClass, hk, hkind, hh, W.alloc, W.stop, Option.some.injEq, exists_eq_left', Array.size_replicate, hda]
  rw [if_neg (by omega)]
  exact ⟨h1, h2, hfits, hq⟩
theorem mm_make1 {comp cc : ClassId} {kc : Class} {m : Int32} (hkc : s.vm.classes[comp]? = some kc) (hkindc : kc.kind = .array cc .int) (hm : ¬ m < 0)
    (hl : ¬ m.toNatClampNeg > e.platform.arrayLengthLimit) (hh : ¬ m.toNatClampNeg * componentBytes .int > e.platform.maxHeapBytes)
    (h1 : s.heap.size < e.platform.maxCells) (h2 : s.slotsUsed + m.toNatClampNeg ≤ e.platform.maxSlots)
    {Q : Addr → Pre} (hq : Q s.heap.size dd acts (s.pushCell (mm_row comp m.toNatClampNeg))) : wp (Op.multianewarray.make comp [m]) Q E e dd acts s := by
  rw [Op.multianewarray.make]
  simp only [wp_bind', W.ite, hm, if_false, wp_pure', W.theClass, hkc, hkindc, Option.some.injEq, exists_eq_left']
  exact mm_new hkc hkindc hl hh rfl rfl h1 h2 hq
theorem mm_make2 {c comp cc : ClassId} {k kc : Class} {n m : Int32} {N M : Nat} (hN : n.toNatClampNeg = N) (hM : m.toNatClampNeg = M) (hk : s.vm.classes[c]? = some k) (hkind : k.kind = .array comp (.array .int))
    (hkc : s.vm.classes[comp]? = some kc) (hkindc : kc.kind = .array cc .int) (hn : ¬ n < 0) (hm : ¬ m < 0)
    (hl1 : ¬ N > e.platform.arrayLengthLimit) (hh1 : ¬ N * componentBytes (.array .int) > e.platform.maxHeapBytes) (hl2 : ¬ M > e.platform.arrayLengthLimit) (hh2 : ¬ M * componentBytes .int > e.platform.maxHeapBytes)
    (hc : s.heap.size + 1 + N ≤ e.platform.maxCells) (hs : s.slotsUsed + N + N * M ≤ e.platform.maxSlots)
    {Q : Addr → Pre} (hq : ∀ d' acts', Q s.heap.size d' acts' (mm_st s c comp N M N)) : wp (Op.multianewarray.make c [n, m]) Q E e dd acts s := by
  subst hN; subst hM
  have hfind : ([m].find? (· < 0)) = none := by simp [hm]
  rw [Op.multianewarray.make]
  simp only [wp_bind', W.ite, hn, if_false, wp_pure', W.theClass, hk, hkind, Option.some.injEq, exists_eq_left']
  refine mm_new hk hkind hl1 hh1 rfl rfl (by omega) (by have := Nat.zero_le (n.toNatClampNeg * m.toNatClampNeg); omega) ?_
  simp only [hfind]
  rw [ite_self, wp_bind', Std.Legacy.Range.forIn_eq_forIn_range']
  have hsz : ([:n.toNatClampNeg] : Std.Legacy.Range).size = n.toNatClampNeg := by simp [Std.Legacy.Range.size]
  rw [hsz]
  have e0 : s.pushCell (arrV c n.toNatClampNeg (fun _ => .null)) = mm_st s c comp n.toNatClampNeg m.toNatClampNeg 0 := by
    show _ = s.pushCell (mm_out _ _ _ 0)
    unfold mm_out
    simp
  rw [e0]
  show wp (forIn (List.range' 0 n.toNatClampNeg 1) PUnit.unit _) _ E e dd acts _
  refine wp_forIn_inv (fun rest s' => ∃ i, i ≤ n.toNatClampNeg ∧ rest = List.range' i (n.toNatClampNeg - i) ∧ s' = mm_st s c comp n.toNatClampNeg m.toNatClampNeg i) _ _ ⟨0, Nat.zero_le _, rfl, rfl⟩ ?_ ?_
  · rintro y rest s' d' acts' Q' ⟨i, hi, hl, rfl⟩ hnext
    have hlt : i < n.toNatClampNeg := by
      by_cases h : i < n.toNatClampNeg
      · exact h
      · rw [show n.toNatClampNeg - i = 0 by omega] at hl; simp at hl
    rw [show n.toNatClampNeg - i = (n.toNatClampNeg - (i + 1)) + 1 by omega, List.range'_succ] at hl
    obtain ⟨h1, hrest⟩ := List.cons.inj hl
    subst h1
    obtain ⟨f1, f2, f3, f4⟩ := mm_facts s c comp n.toNatClampNeg m.toNatClampNeg y
    have o3 : (mm_out c n.toNatClampNeg s.heap.size y).slots.size = n.toNatClampNeg := arrV_size _ _ _
    have hmul : y * m.toNatClampNeg + m.toNatClampNeg ≤ n.toNatClampNeg * m.toNatClampNeg := by
      have := Nat.mul_le_mul_right m.toNatClampNeg (show y + 1 ≤ n.toNatClampNeg from hlt)
      rw [Nat.succ_mul] at this; exact this
    simp only [wp_bind']
    refine mm_make1 (by rw [f3]; exact hkc) hkindc hm hl2 hh2 (by rw [f1]; omega) (by rw [f4]; omega) ?_
    have hlt0 : s.heap.size < (mm_st s c comp n.toNatClampNeg m.toNatClampNeg y).heap.size := by rw [f1]; omega
    simp only [wp_bind', W.writeLoc, wp_pure']
    refine ⟨mm_out c n.toNatClampNeg s.heap.size y, by rw [State.heap_pushCell_of_lt (h := hlt0)]; exact f2, by simp [mm_out, arrV], by rw [o3]; exact hlt, ?_, hnext _ _ _ ⟨y + 1, hlt, hrest, ?_⟩⟩
    · show State.fitsSlot _ c .none _ _ = true
      simp [State.fitsSlot, State.slotType?, f3, hk, hkind]
      rfl
    · rw [f1, mm_out_set]; rfl
  · rintro s' d' acts' ⟨i, hi, hl, rfl⟩
    have hiN : i = n.toNatClampNeg := by
      by_cases h : i < n.toNatClampNeg
      · rw [show n.toNatClampNeg - i = (n.toNatClampNeg - (i + 1)) + 1 by omega, List.range'_succ] at hl; cases hl
      · omega
    subst hiN
    simp only [wp_pure']
    exact hq _ _
end MMW
section MMS
variable {p : Program} {l : Launch} {e : Env} {R : Room} {s : State} {m : MethodId} {args : Array Value} {below : List Frame} {meth : Method} {c : Code} {T : State} {locs : List Loc} {cells slots : Nat}
theorem mm_stand (X : Stand p l e R s m args below meth c T locs cells slots) (cA comp : ClassId) (N M : Nat) :
    ∀ i, Stand p l e R s m args below meth c (mm_st T cA comp N M i) (locs ++ (List.range i).map fun j => ⟨T.heap.size, j⟩) (cells + 1 + i) (slots + N + i * M)
  | 0 => by
    have h := X.pushed (mm_out cA N T.heap.size 0)
    rw [show (mm_out cA N T.heap.size 0).slots.size = N from arrV_size _ _ _] at h
    simpa [mm_st] using h
  | i + 1 => by
    have Xi := mm_stand X cA comp N M i
    obtain ⟨f1, f2, f3, f4⟩ := mm_facts T cA comp N M i
    have hlt0 : T.heap.size < (mm_st T cA comp N M i).heap.size := by rw [f1]; omega
    have hcell : ((mm_st T cA comp N M i).pushCell (mm_row comp M)).heap[T.heap.size]? = some (mm_out cA N T.heap.size i) := by rw [State.heap_pushCell_of_lt (h := hlt0)]; exact f2
    have h := (Xi.pushed (mm_row comp M)).stored hcell i (.ref (T.heap.size + 1 + i))
    rw [mm_out_set, show (mm_row comp M).slots.size = M from arrV_size _ _ _] at h
    have e2 : (locs ++ (List.range (i + 1)).map fun j => (⟨T.heap.size, j⟩ : Loc)) = (locs ++ (List.range i).map fun j => (⟨T.heap.size, j⟩ : Loc)) ++ [⟨T.heap.size, i⟩] := by simp [List.range_succ, List.append_assoc]
    have e3 : slots + N + (i + 1) * M = slots + N + i * M + M := by rw [Nat.succ_mul]; omega
    rw [e2, e3]
    exact h
end MMS
