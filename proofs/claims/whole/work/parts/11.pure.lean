def am_pr (ad : Nat → Nat) (L : List (Option Value)) : List (Nat × Value) := (List.range L.length).filterMap fun i => (L[i]?.join).map fun v => (i, am_up ad v)
theorem am_pr_mem {ad : Nat → Nat} {L : List (Option Value)} {i : Nat} {v : Value} (h : L[i]? = some (some v)) : (i, am_up ad v) ∈ am_pr ad L := by
  unfold am_pr
  rw [List.mem_filterMap]
  refine ⟨i, List.mem_range.mpr (List.getElem?_eq_some_iff.mp h).1, ?_⟩
  rw [h]; rfl
theorem am_L.has {ad : Nat → Nat} {nL : Nat} {L : List (Option Value)} {ls : Array Slot} (h : am_L ad nL L ls) : lv_has ls nL (am_pr ad L) := by
  refine ⟨h.1, h.2.1, fun q hq => ?_⟩
  unfold am_pr at hq
  obtain ⟨i, -, hi⟩ := List.mem_filterMap.mp hq
  cases hx : L[i]? with
  | none => rw [hx] at hi; simp at hi
  | some o =>
    cases o with
    | none => rw [hx] at hi; simp at hi
    | some v =>
      rw [hx] at hi
      simp at hi
      subst hi
      exact (h.2.2 i v hx).1
theorem am_L.back {ad : Nat → Nat} {nL i : Nat} {v : Value} {L : List (Option Value)} {ls ls' : Array Slot} (h : am_L ad nL L ls) (hc : v.category = 1) (h' : lv_has ls' nL ((i, am_up ad v) :: (am_pr ad L).filter (fun q => !(q.1 == i) && !(q.1 + 1 == i && q.2.category == 2)))) : am_L ad nL (L.set i (some v)) ls' := by
  refine ⟨h'.1, h'.2.1, fun j u hj => ?_⟩
  rw [List.getElem?_set] at hj
  by_cases e : i = j
  · subst e
    rw [if_pos rfl] at hj
    split at hj
    · cases hj
      exact ⟨h'.2.2 _ List.mem_cons_self, hc⟩
    · cases hj
  · rw [if_neg e] at hj
    have h1 := h.2.2 j u hj
    refine ⟨h'.2.2 (j, am_up ad u) (List.mem_cons_of_mem _ (List.mem_filter.mpr ⟨am_pr_mem hj, ?_⟩)), h1.2⟩
    have e2 : ¬ j = i := fun z => e z.symm
    simp [e2, am_up_cat, h1.2]
theorem am_L.at {ad : Nat → Nat} {nL i : Nat} {v : Value} {L : List (Option Value)} {ls : Array Slot} (h : am_L ad nL L ls) (hi : L[i]? = some (some v)) : ls[i]? = some (.val (am_up ad v)) := (h.2.2 i v hi).1
theorem am_C.at {C : am_Cfg} {x : am_X} {bc bs : Nat} {mi : am_M} {L : List (Option Value)} {S : am_S} {n : Nat} {d : am_D} {p : Program} {s : State} {m : MethodId} {args : Array Value} {meth : Method} {c : Code} {H : Heap} {locs : List Loc} {cells slots mc ms : Nat} {ls : Array Slot} (h : am_C C x bc bs mi L S n d p s m args meth c H locs cells slots mc ms ls) : am_L (am_ad x) mi.2.2.1 L ls := h.2.2.2.2.2
theorem am_C.to {C : am_Cfg} {x : am_X} {bc bs : Nat} {mi : am_M} {L L' : List (Option Value)} {S : am_S} {n : Nat} {d : am_D} {p : Program} {s : State} {m : MethodId} {args : Array Value} {meth : Method} {c : Code} {H : Heap} {locs : List Loc} {cells slots mc ms : Nat} {ls ls' : Array Slot} (h : am_C C x bc bs mi L S n d p s m args meth c H locs cells slots mc ms ls) (h' : am_L (am_ad x) mi.2.2.1 L' ls') : am_C C x bc bs mi L' S n d p s m args meth c H locs cells slots mc ms ls' := ⟨h.1, h.2.1, h.2.2.1, h.2.2.2.1, h.2.2.2.2.1, h'⟩
def am_bin (f : Int32 → Int32 → Int32) (n pc : Nat) (L : List (Option Value)) (st : List Value) : Option (Nat × List (Option Value) × List Value) := if n = 1 then (match st with
  | .int y :: .int x :: r => some (pc + 1, L, .int (f x y) :: r)
  | _ => none) else none
def am_un (f : Int32 → Int32) (n pc : Nat) (L : List (Option Value)) (st : List Value) : Option (Nat × List (Option Value) × List Value) := if n = 1 then (match st with
  | .int x :: r => some (pc + 1, L, .int (f x) :: r)
  | _ => none) else none
def am_ild (i k n pc : Nat) (L : List (Option Value)) (st : List Value) : Option (Nat × List (Option Value) × List Value) := if n = k then (match L[i]? with
  | some (some (.int x)) => some (pc + k, L, .int x :: st)
  | _ => none) else none
def am_ald (i k n pc : Nat) (L : List (Option Value)) (st : List Value) : Option (Nat × List (Option Value) × List Value) := if n = k then (match L[i]? with
  | some (some (.ref x)) => some (pc + k, L, .ref x :: st)
  | _ => none) else none
def am_ist (nL i k n pc : Nat) (L : List (Option Value)) (st : List Value) : Option (Nat × List (Option Value) × List Value) := if n = k ∧ i < nL then (match st with
  | .int x :: r => some (pc + k, L.set i (some (.int x)), r)
  | _ => none) else none
def am_ast (nL i k n pc : Nat) (L : List (Option Value)) (st : List Value) : Option (Nat × List (Option Value) × List Value) := if n = k ∧ i < nL then (match st with
  | .ref x :: r => some (pc + k, L.set i (some (.ref x)), r)
  | _ => none) else none
def am_inc (nL i : Nat) (k : Int) (n pc : Nat) (L : List (Option Value)) (st : List Value) : Option (Nat × List (Option Value) × List Value) := if n = 3 ∧ i < nL then (match L[i]? with
  | some (some (.int x)) => some (pc + 3, L.set i (some (.int (x + Int32.ofInt k))), st)
  | _ => none) else none
def am_cst (v : Int32) (k n pc : Nat) (L : List (Option Value)) (st : List Value) : Option (Nat × List (Option Value) × List Value) := if n = k then some (pc + k, L, .int v :: st) else none
def am_is1 (v : Value) : Bool := v.category == 1
def am_dup1 (n pc : Nat) (L : List (Option Value)) (st : List Value) : Option (Nat × List (Option Value) × List Value) := if n = 1 then (match st with
  | a :: r => if am_is1 a = true then some (pc + 1, L, a :: a :: r) else none
  | _ => none) else none
def am_pop1 (n pc : Nat) (L : List (Option Value)) (st : List Value) : Option (Nat × List (Option Value) × List Value) := if n = 1 then (match st with
  | a :: r => if am_is1 a = true then some (pc + 1, L, r) else none
  | _ => none) else none
def am_dupx1 (n pc : Nat) (L : List (Option Value)) (st : List Value) : Option (Nat × List (Option Value) × List Value) := if n = 1 then (match st with
  | a :: b :: r => if am_is1 a = true ∧ am_is1 b = true then some (pc + 1, L, a :: b :: a :: r) else none
  | _ => none) else none
def am_dupx2 (n pc : Nat) (L : List (Option Value)) (st : List Value) : Option (Nat × List (Option Value) × List Value) := if n = 1 then (match st with
  | a :: b :: c :: r => if am_is1 a = true ∧ am_is1 b = true ∧ am_is1 c = true then some (pc + 1, L, a :: b :: c :: a :: r) else none
  | _ => none) else none
def am_dup2 (n pc : Nat) (L : List (Option Value)) (st : List Value) : Option (Nat × List (Option Value) × List Value) := if n = 1 then (match st with
  | a :: b :: r => if am_is1 a = true ∧ am_is1 b = true then some (pc + 1, L, a :: b :: a :: b :: r) else none
  | _ => none) else none
def am_jmp (off : Int) (n pc : Nat) (L : List (Option Value)) (st : List Value) : Option (Nat × List (Option Value) × List Value) := if n = 3 ∧ 0 ≤ (pc : Int) + off then some (((pc : Int) + off).toNat, L, st) else none
def am_pure (nL : Nat) (i : Jvm.ClassFile.Instr) (n pc : Nat) (L : List (Option Value)) (st : List Value) : Option (Nat × List (Option Value) × List Value) := match i with
  | .iconst k => am_cst (Int32.ofInt k) 1 n pc L st
  | .bipush k => am_cst (Int8.ofInt k).toInt32 2 n pc L st
  | .sipush k => am_cst (Int16.ofInt k).toInt32 3 n pc L st
  | .iload i => am_ild i 2 n pc L st
  | .iload_n i => am_ild i.val 1 n pc L st
  | .aload i => am_ald i 2 n pc L st
  | .aload_n i => am_ald i.val 1 n pc L st
  | .istore i => am_ist nL i 2 n pc L st
  | .istore_n i => am_ist nL i.val 1 n pc L st
  | .astore i => am_ast nL i 2 n pc L st
  | .astore_n i => am_ast nL i.val 1 n pc L st
  | .iinc i k => am_inc nL i k n pc L st
  | .iadd => am_bin (fun x y => x + y) n pc L st
  | .isub => am_bin (fun x y => x - y) n pc L st
  | .imul => am_bin (fun x y => x * y) n pc L st
  | .iand => am_bin (fun x y => x &&& y) n pc L st
  | .ior => am_bin (fun x y => x ||| y) n pc L st
  | .ixor => am_bin (fun x y => x ^^^ y) n pc L st
  | .ishl => am_bin (fun x y => x <<< (y &&& 31)) n pc L st
  | .ishr => am_bin (fun x y => x >>> (y &&& 31)) n pc L st
  | .iushr => am_bin (fun x y => (x.toUInt32 >>> (y.toUInt32 &&& Int32.toUInt32 31)).toInt32) n pc L st
  | .ineg => am_un (fun x => -x) n pc L st
  | .i2c => am_un (fun x => (x.toUInt32 % 65536).toInt32) n pc L st
  | .dup => am_dup1 n pc L st
  | .pop => am_pop1 n pc L st
  | .dup_x1 => am_dupx1 n pc L st
  | .dup_x2 => am_dupx2 n pc L st
  | .dup2 => am_dup2 n pc L st
  | .goto off => am_jmp off n pc L st
  | _ => none
theorem am_p_iconst {l : Launch} {C : am_Cfg} {x : am_X} {dep bc bs pc pc' n : Nat} {mi : am_M} {L L' : List (Option Value)} {st st' : List Value} {S : am_S} {nn : Nat} {d : am_D} {Q : Option Value → am_S → Nat → am_D → Prop} {k : Int} (h : am_cst (Int32.ofInt k) 1 n pc L st = some (pc', L', st')) (hd : decode mi.2.1 pc = .ok (.iconst k, n)) (kk : am_W l C x dep bc bs mi pc' L' st' S nn d Q) : am_W l C x dep bc bs mi pc L st S nn d Q := by
  intro p e s m args below meth c H locs cells slots mc ms ls hC
  have hx := hC.1.1
  have hb := hC.1.2.1
  unfold am_cst at h; split at h
  · rename_i hn; subst hn; cases h
    exact lv_iconst hx hb hd rfl (kk p e s m args below meth c H locs cells slots mc ms ls hC)
  · cases h
theorem am_p_bipush {l : Launch} {C : am_Cfg} {x : am_X} {dep bc bs pc pc' n : Nat} {mi : am_M} {L L' : List (Option Value)} {st st' : List Value} {S : am_S} {nn : Nat} {d : am_D} {Q : Option Value → am_S → Nat → am_D → Prop} {k : Int} (h : am_cst (Int8.ofInt k).toInt32 2 n pc L st = some (pc', L', st')) (hd : decode mi.2.1 pc = .ok (.bipush k, n)) (kk : am_W l C x dep bc bs mi pc' L' st' S nn d Q) : am_W l C x dep bc bs mi pc L st S nn d Q := by
  intro p e s m args below meth c H locs cells slots mc ms ls hC
  have hx := hC.1.1
  have hb := hC.1.2.1
  unfold am_cst at h; split at h
  · rename_i hn; subst hn; cases h
    exact lv_bipush hx hb hd rfl (kk p e s m args below meth c H locs cells slots mc ms ls hC)
  · cases h
theorem am_p_sipush {l : Launch} {C : am_Cfg} {x : am_X} {dep bc bs pc pc' n : Nat} {mi : am_M} {L L' : List (Option Value)} {st st' : List Value} {S : am_S} {nn : Nat} {d : am_D} {Q : Option Value → am_S → Nat → am_D → Prop} {k : Int} (h : am_cst (Int16.ofInt k).toInt32 3 n pc L st = some (pc', L', st')) (hd : decode mi.2.1 pc = .ok (.sipush k, n)) (kk : am_W l C x dep bc bs mi pc' L' st' S nn d Q) : am_W l C x dep bc bs mi pc L st S nn d Q := by
  intro p e s m args below meth c H locs cells slots mc ms ls hC
  have hx := hC.1.1
  have hb := hC.1.2.1
  unfold am_cst at h; split at h
  · rename_i hn; subst hn; cases h
    exact lv_sipush hx hb hd rfl (kk p e s m args below meth c H locs cells slots mc ms ls hC)
  · cases h
theorem am_p_iload {l : Launch} {C : am_Cfg} {x : am_X} {dep bc bs pc pc' n : Nat} {mi : am_M} {L L' : List (Option Value)} {st st' : List Value} {S : am_S} {nn : Nat} {d : am_D} {Q : Option Value → am_S → Nat → am_D → Prop} {i : Nat} (h : am_ild i 2 n pc L st = some (pc', L', st')) (hd : decode mi.2.1 pc = .ok (.iload i, n)) (kk : am_W l C x dep bc bs mi pc' L' st' S nn d Q) : am_W l C x dep bc bs mi pc L st S nn d Q := by
  intro p e s m args below meth c H locs cells slots mc ms ls hC
  have hx := hC.1.1
  have hb := hC.1.2.1
  unfold am_ild at h; split at h
  · rename_i hn; subst hn; split at h
    · rename_i y hv; cases h
      exact lv_iload hx hb hd (hC.at.at hv) (kk p e s m args below meth c H locs cells slots mc ms ls hC)
    · cases h
  · cases h
theorem am_p_iload_n {l : Launch} {C : am_Cfg} {x : am_X} {dep bc bs pc pc' n : Nat} {mi : am_M} {L L' : List (Option Value)} {st st' : List Value} {S : am_S} {nn : Nat} {d : am_D} {Q : Option Value → am_S → Nat → am_D → Prop} {i : Fin 4} (h : am_ild i.val 1 n pc L st = some (pc', L', st')) (hd : decode mi.2.1 pc = .ok (.iload_n i, n)) (kk : am_W l C x dep bc bs mi pc' L' st' S nn d Q) : am_W l C x dep bc bs mi pc L st S nn d Q := by
  intro p e s m args below meth c H locs cells slots mc ms ls hC
  have hx := hC.1.1
  have hb := hC.1.2.1
  unfold am_ild at h; split at h
  · rename_i hn; subst hn; split at h
    · rename_i y hv; cases h
      exact lv_iload_n hx hb hd rfl (hC.at.at hv) (kk p e s m args below meth c H locs cells slots mc ms ls hC)
    · cases h
  · cases h
theorem am_p_aload {l : Launch} {C : am_Cfg} {x : am_X} {dep bc bs pc pc' n : Nat} {mi : am_M} {L L' : List (Option Value)} {st st' : List Value} {S : am_S} {nn : Nat} {d : am_D} {Q : Option Value → am_S → Nat → am_D → Prop} {i : Nat} (h : am_ald i 2 n pc L st = some (pc', L', st')) (hd : decode mi.2.1 pc = .ok (.aload i, n)) (kk : am_W l C x dep bc bs mi pc' L' st' S nn d Q) : am_W l C x dep bc bs mi pc L st S nn d Q := by
  intro p e s m args below meth c H locs cells slots mc ms ls hC
  have hx := hC.1.1
  have hb := hC.1.2.1
  unfold am_ald at h; split at h
  · rename_i hn; subst hn; split at h
    · rename_i y hv; cases h
      exact lv_aload hx hb hd (hC.at.at hv) (kk p e s m args below meth c H locs cells slots mc ms ls hC)
    · cases h
  · cases h
theorem am_p_aload_n {l : Launch} {C : am_Cfg} {x : am_X} {dep bc bs pc pc' n : Nat} {mi : am_M} {L L' : List (Option Value)} {st st' : List Value} {S : am_S} {nn : Nat} {d : am_D} {Q : Option Value → am_S → Nat → am_D → Prop} {i : Fin 4} (h : am_ald i.val 1 n pc L st = some (pc', L', st')) (hd : decode mi.2.1 pc = .ok (.aload_n i, n)) (kk : am_W l C x dep bc bs mi pc' L' st' S nn d Q) : am_W l C x dep bc bs mi pc L st S nn d Q := by
  intro p e s m args below meth c H locs cells slots mc ms ls hC
  have hx := hC.1.1
  have hb := hC.1.2.1
  unfold am_ald at h; split at h
  · rename_i hn; subst hn; split at h
    · rename_i y hv; cases h
      exact lv_aload_n hx hb hd rfl (hC.at.at hv) (kk p e s m args below meth c H locs cells slots mc ms ls hC)
    · cases h
  · cases h
theorem am_p_istore {l : Launch} {C : am_Cfg} {x : am_X} {dep bc bs pc pc' n : Nat} {mi : am_M} {L L' : List (Option Value)} {st st' : List Value} {S : am_S} {nn : Nat} {d : am_D} {Q : Option Value → am_S → Nat → am_D → Prop} {i : Nat} (h : am_ist mi.2.2.1 i 2 n pc L st = some (pc', L', st')) (hd : decode mi.2.1 pc = .ok (.istore i, n)) (kk : am_W l C x dep bc bs mi pc' L' st' S nn d Q) : am_W l C x dep bc bs mi pc L st S nn d Q := by
  intro p e s m args below meth c H locs cells slots mc ms ls hC
  have hx := hC.1.1
  have hb := hC.1.2.1
  unfold am_ist at h; split at h
  · rename_i hn; obtain ⟨hn1, hn2⟩ := hn; subst hn1; split at h
    · rename_i y r; cases h
      exact lv_istore hx hb hd hC.at.has hn2 rfl (fun ls' h' => kk p e s m args below meth c H locs cells slots mc ms ls' (hC.to (hC.at.back rfl h')))
    · cases h
  · cases h
theorem am_p_istore_n {l : Launch} {C : am_Cfg} {x : am_X} {dep bc bs pc pc' n : Nat} {mi : am_M} {L L' : List (Option Value)} {st st' : List Value} {S : am_S} {nn : Nat} {d : am_D} {Q : Option Value → am_S → Nat → am_D → Prop} {i : Fin 4} (h : am_ist mi.2.2.1 i.val 1 n pc L st = some (pc', L', st')) (hd : decode mi.2.1 pc = .ok (.istore_n i, n)) (kk : am_W l C x dep bc bs mi pc' L' st' S nn d Q) : am_W l C x dep bc bs mi pc L st S nn d Q := by
  intro p e s m args below meth c H locs cells slots mc ms ls hC
  have hx := hC.1.1
  have hb := hC.1.2.1
  unfold am_ist at h; split at h
  · rename_i hn; obtain ⟨hn1, hn2⟩ := hn; subst hn1; split at h
    · rename_i y r; cases h
      exact lv_istore_n hx hb hd rfl hC.at.has hn2 rfl (fun ls' h' => kk p e s m args below meth c H locs cells slots mc ms ls' (hC.to (hC.at.back rfl h')))
    · cases h
  · cases h
theorem am_p_astore {l : Launch} {C : am_Cfg} {x : am_X} {dep bc bs pc pc' n : Nat} {mi : am_M} {L L' : List (Option Value)} {st st' : List Value} {S : am_S} {nn : Nat} {d : am_D} {Q : Option Value → am_S → Nat → am_D → Prop} {i : Nat} (h : am_ast mi.2.2.1 i 2 n pc L st = some (pc', L', st')) (hd : decode mi.2.1 pc = .ok (.astore i, n)) (kk : am_W l C x dep bc bs mi pc' L' st' S nn d Q) : am_W l C x dep bc bs mi pc L st S nn d Q := by
  intro p e s m args below meth c H locs cells slots mc ms ls hC
  have hx := hC.1.1
  have hb := hC.1.2.1
  unfold am_ast at h; split at h
  · rename_i hn; obtain ⟨hn1, hn2⟩ := hn; subst hn1; split at h
    · rename_i y r; cases h
      exact lv_astore hx hb hd hC.at.has hn2 rfl (fun ls' h' => kk p e s m args below meth c H locs cells slots mc ms ls' (hC.to (hC.at.back rfl h')))
    · cases h
  · cases h
theorem am_p_astore_n {l : Launch} {C : am_Cfg} {x : am_X} {dep bc bs pc pc' n : Nat} {mi : am_M} {L L' : List (Option Value)} {st st' : List Value} {S : am_S} {nn : Nat} {d : am_D} {Q : Option Value → am_S → Nat → am_D → Prop} {i : Fin 4} (h : am_ast mi.2.2.1 i.val 1 n pc L st = some (pc', L', st')) (hd : decode mi.2.1 pc = .ok (.astore_n i, n)) (kk : am_W l C x dep bc bs mi pc' L' st' S nn d Q) : am_W l C x dep bc bs mi pc L st S nn d Q := by
  intro p e s m args below meth c H locs cells slots mc ms ls hC
  have hx := hC.1.1
  have hb := hC.1.2.1
  unfold am_ast at h; split at h
  · rename_i hn; obtain ⟨hn1, hn2⟩ := hn; subst hn1; split at h
    · rename_i y r; cases h
      exact lv_astore_n hx hb hd rfl hC.at.has hn2 rfl (fun ls' h' => kk p e s m args below meth c H locs cells slots mc ms ls' (hC.to (hC.at.back rfl h')))
    · cases h
  · cases h
theorem am_p_iinc {l : Launch} {C : am_Cfg} {x : am_X} {dep bc bs pc pc' n : Nat} {mi : am_M} {L L' : List (Option Value)} {st st' : List Value} {S : am_S} {nn : Nat} {d : am_D} {Q : Option Value → am_S → Nat → am_D → Prop} {i : Nat} {k : Int} (h : am_inc mi.2.2.1 i k n pc L st = some (pc', L', st')) (hd : decode mi.2.1 pc = .ok (.iinc i k, n)) (kk : am_W l C x dep bc bs mi pc' L' st' S nn d Q) : am_W l C x dep bc bs mi pc L st S nn d Q := by
  intro p e s m args below meth c H locs cells slots mc ms ls hC
  have hx := hC.1.1
  have hb := hC.1.2.1
  unfold am_inc at h; split at h
  · rename_i hn; obtain ⟨hn1, hn2⟩ := hn; subst hn1; split at h
    · rename_i y hv; cases h
      obtain ⟨j, hj⟩ := List.getElem?_of_mem (am_pr_mem (ad := am_ad x) hv)
      exact lv_iinc hx hb hd hC.at.has hj rfl hn2 rfl (fun ls' h' => kk p e s m args below meth c H locs cells slots mc ms ls' (hC.to (hC.at.back rfl h')))
    · cases h
  · cases h
theorem am_p_iadd {l : Launch} {C : am_Cfg} {x : am_X} {dep bc bs pc pc' n : Nat} {mi : am_M} {L L' : List (Option Value)} {st st' : List Value} {S : am_S} {nn : Nat} {d : am_D} {Q : Option Value → am_S → Nat → am_D → Prop} (h : am_bin (fun x y => x + y) n pc L st = some (pc', L', st')) (hd : decode mi.2.1 pc = .ok (.iadd, n)) (kk : am_W l C x dep bc bs mi pc' L' st' S nn d Q) : am_W l C x dep bc bs mi pc L st S nn d Q := by
  intro p e s m args below meth c H locs cells slots mc ms ls hC
  have hx := hC.1.1
  have hb := hC.1.2.1
  unfold am_bin at h; split at h
  · rename_i hn; subst hn; split at h
    · cases h
      exact lv_iadd hx hb hd (kk p e s m args below meth c H locs cells slots mc ms ls hC)
    · cases h
  · cases h
theorem am_p_isub {l : Launch} {C : am_Cfg} {x : am_X} {dep bc bs pc pc' n : Nat} {mi : am_M} {L L' : List (Option Value)} {st st' : List Value} {S : am_S} {nn : Nat} {d : am_D} {Q : Option Value → am_S → Nat → am_D → Prop} (h : am_bin (fun x y => x - y) n pc L st = some (pc', L', st')) (hd : decode mi.2.1 pc = .ok (.isub, n)) (kk : am_W l C x dep bc bs mi pc' L' st' S nn d Q) : am_W l C x dep bc bs mi pc L st S nn d Q := by
  intro p e s m args below meth c H locs cells slots mc ms ls hC
  have hx := hC.1.1
  have hb := hC.1.2.1
  unfold am_bin at h; split at h
  · rename_i hn; subst hn; split at h
    · cases h
      exact lv_isub hx hb hd (kk p e s m args below meth c H locs cells slots mc ms ls hC)
    · cases h
  · cases h
theorem am_p_imul {l : Launch} {C : am_Cfg} {x : am_X} {dep bc bs pc pc' n : Nat} {mi : am_M} {L L' : List (Option Value)} {st st' : List Value} {S : am_S} {nn : Nat} {d : am_D} {Q : Option Value → am_S → Nat → am_D → Prop} (h : am_bin (fun x y => x * y) n pc L st = some (pc', L', st')) (hd : decode mi.2.1 pc = .ok (.imul, n)) (kk : am_W l C x dep bc bs mi pc' L' st' S nn d Q) : am_W l C x dep bc bs mi pc L st S nn d Q := by
  intro p e s m args below meth c H locs cells slots mc ms ls hC
  have hx := hC.1.1
  have hb := hC.1.2.1
  unfold am_bin at h; split at h
  · rename_i hn; subst hn; split at h
    · cases h
      exact lv_imul hx hb hd (kk p e s m args below meth c H locs cells slots mc ms ls hC)
    · cases h
  · cases h
theorem am_p_iand {l : Launch} {C : am_Cfg} {x : am_X} {dep bc bs pc pc' n : Nat} {mi : am_M} {L L' : List (Option Value)} {st st' : List Value} {S : am_S} {nn : Nat} {d : am_D} {Q : Option Value → am_S → Nat → am_D → Prop} (h : am_bin (fun x y => x &&& y) n pc L st = some (pc', L', st')) (hd : decode mi.2.1 pc = .ok (.iand, n)) (kk : am_W l C x dep bc bs mi pc' L' st' S nn d Q) : am_W l C x dep bc bs mi pc L st S nn d Q := by
  intro p e s m args below meth c H locs cells slots mc ms ls hC
  have hx := hC.1.1
  have hb := hC.1.2.1
  unfold am_bin at h; split at h
  · rename_i hn; subst hn; split at h
    · cases h
      exact lv_iand hx hb hd (kk p e s m args below meth c H locs cells slots mc ms ls hC)
    · cases h
  · cases h
theorem am_p_ior {l : Launch} {C : am_Cfg} {x : am_X} {dep bc bs pc pc' n : Nat} {mi : am_M} {L L' : List (Option Value)} {st st' : List Value} {S : am_S} {nn : Nat} {d : am_D} {Q : Option Value → am_S → Nat → am_D → Prop} (h : am_bin (fun x y => x ||| y) n pc L st = some (pc', L', st')) (hd : decode mi.2.1 pc = .ok (.ior, n)) (kk : am_W l C x dep bc bs mi pc' L' st' S nn d Q) : am_W l C x dep bc bs mi pc L st S nn d Q := by
  intro p e s m args below meth c H locs cells slots mc ms ls hC
  have hx := hC.1.1
  have hb := hC.1.2.1
  unfold am_bin at h; split at h
  · rename_i hn; subst hn; split at h
    · cases h
      exact lv_ior hx hb hd (kk p e s m args below meth c H locs cells slots mc ms ls hC)
    · cases h
  · cases h
theorem am_p_ixor {l : Launch} {C : am_Cfg} {x : am_X} {dep bc bs pc pc' n : Nat} {mi : am_M} {L L' : List (Option Value)} {st st' : List Value} {S : am_S} {nn : Nat} {d : am_D} {Q : Option Value → am_S → Nat → am_D → Prop} (h : am_bin (fun x y => x ^^^ y) n pc L st = some (pc', L', st')) (hd : decode mi.2.1 pc = .ok (.ixor, n)) (kk : am_W l C x dep bc bs mi pc' L' st' S nn d Q) : am_W l C x dep bc bs mi pc L st S nn d Q := by
  intro p e s m args below meth c H locs cells slots mc ms ls hC
  have hx := hC.1.1
  have hb := hC.1.2.1
  unfold am_bin at h; split at h
  · rename_i hn; subst hn; split at h
    · cases h
      exact lv_ixor hx hb hd (kk p e s m args below meth c H locs cells slots mc ms ls hC)
    · cases h
  · cases h
theorem am_p_ishl {l : Launch} {C : am_Cfg} {x : am_X} {dep bc bs pc pc' n : Nat} {mi : am_M} {L L' : List (Option Value)} {st st' : List Value} {S : am_S} {nn : Nat} {d : am_D} {Q : Option Value → am_S → Nat → am_D → Prop} (h : am_bin (fun x y => x <<< (y &&& 31)) n pc L st = some (pc', L', st')) (hd : decode mi.2.1 pc = .ok (.ishl, n)) (kk : am_W l C x dep bc bs mi pc' L' st' S nn d Q) : am_W l C x dep bc bs mi pc L st S nn d Q := by
  intro p e s m args below meth c H locs cells slots mc ms ls hC
  have hx := hC.1.1
  have hb := hC.1.2.1
  unfold am_bin at h; split at h
  · rename_i hn; subst hn; split at h
    · cases h
      exact lv_ishl hx hb hd (kk p e s m args below meth c H locs cells slots mc ms ls hC)
    · cases h
  · cases h
theorem am_p_ishr {l : Launch} {C : am_Cfg} {x : am_X} {dep bc bs pc pc' n : Nat} {mi : am_M} {L L' : List (Option Value)} {st st' : List Value} {S : am_S} {nn : Nat} {d : am_D} {Q : Option Value → am_S → Nat → am_D → Prop} (h : am_bin (fun x y => x >>> (y &&& 31)) n pc L st = some (pc', L', st')) (hd : decode mi.2.1 pc = .ok (.ishr, n)) (kk : am_W l C x dep bc bs mi pc' L' st' S nn d Q) : am_W l C x dep bc bs mi pc L st S nn d Q := by
  intro p e s m args below meth c H locs cells slots mc ms ls hC
  have hx := hC.1.1
  have hb := hC.1.2.1
  unfold am_bin at h; split at h
  · rename_i hn; subst hn; split at h
    · cases h
      exact lv_ishr hx hb hd (kk p e s m args below meth c H locs cells slots mc ms ls hC)
    · cases h
  · cases h
theorem am_p_iushr {l : Launch} {C : am_Cfg} {x : am_X} {dep bc bs pc pc' n : Nat} {mi : am_M} {L L' : List (Option Value)} {st st' : List Value} {S : am_S} {nn : Nat} {d : am_D} {Q : Option Value → am_S → Nat → am_D → Prop} (h : am_bin (fun x y => (x.toUInt32 >>> (y.toUInt32 &&& Int32.toUInt32 31)).toInt32) n pc L st = some (pc', L', st')) (hd : decode mi.2.1 pc = .ok (.iushr, n)) (kk : am_W l C x dep bc bs mi pc' L' st' S nn d Q) : am_W l C x dep bc bs mi pc L st S nn d Q := by
  intro p e s m args below meth c H locs cells slots mc ms ls hC
  have hx := hC.1.1
  have hb := hC.1.2.1
  unfold am_bin at h; split at h
  · rename_i hn; subst hn; split at h
    · cases h
      exact lv_iushr hx hb hd rfl (kk p e s m args below meth c H locs cells slots mc ms ls hC)
    · cases h
  · cases h
theorem am_p_ineg {l : Launch} {C : am_Cfg} {x : am_X} {dep bc bs pc pc' n : Nat} {mi : am_M} {L L' : List (Option Value)} {st st' : List Value} {S : am_S} {nn : Nat} {d : am_D} {Q : Option Value → am_S → Nat → am_D → Prop} (h : am_un (fun x => -x) n pc L st = some (pc', L', st')) (hd : decode mi.2.1 pc = .ok (.ineg, n)) (kk : am_W l C x dep bc bs mi pc' L' st' S nn d Q) : am_W l C x dep bc bs mi pc L st S nn d Q := by
  intro p e s m args below meth c H locs cells slots mc ms ls hC
  have hx := hC.1.1
  have hb := hC.1.2.1
  unfold am_un at h; split at h
  · rename_i hn; subst hn; split at h
    · cases h
      exact lv_ineg hx hb hd (kk p e s m args below meth c H locs cells slots mc ms ls hC)
    · cases h
  · cases h
theorem am_p_i2c {l : Launch} {C : am_Cfg} {x : am_X} {dep bc bs pc pc' n : Nat} {mi : am_M} {L L' : List (Option Value)} {st st' : List Value} {S : am_S} {nn : Nat} {d : am_D} {Q : Option Value → am_S → Nat → am_D → Prop} (h : am_un (fun x => (x.toUInt32 % 65536).toInt32) n pc L st = some (pc', L', st')) (hd : decode mi.2.1 pc = .ok (.i2c, n)) (kk : am_W l C x dep bc bs mi pc' L' st' S nn d Q) : am_W l C x dep bc bs mi pc L st S nn d Q := by
  intro p e s m args below meth c H locs cells slots mc ms ls hC
  have hx := hC.1.1
  have hb := hC.1.2.1
  unfold am_un at h; split at h
  · rename_i hn; subst hn; split at h
    · cases h
      exact lv_i2c hx hb hd rfl (kk p e s m args below meth c H locs cells slots mc ms ls hC)
    · cases h
  · cases h
theorem am_p_dup {l : Launch} {C : am_Cfg} {x : am_X} {dep bc bs pc pc' n : Nat} {mi : am_M} {L L' : List (Option Value)} {st st' : List Value} {S : am_S} {nn : Nat} {d : am_D} {Q : Option Value → am_S → Nat → am_D → Prop} (h : am_dup1 n pc L st = some (pc', L', st')) (hd : decode mi.2.1 pc = .ok (.dup, n)) (kk : am_W l C x dep bc bs mi pc' L' st' S nn d Q) : am_W l C x dep bc bs mi pc L st S nn d Q := by
  intro p e s m args below meth c H locs cells slots mc ms ls hC
  have hx := hC.1.1
  have hb := hC.1.2.1
  unfold am_dup1 at h; split at h
  · rename_i hn; subst hn; split at h
    · split at h
      · rename_i hc; cases h
        exact lv_dup hx hb hd (by rw [am_up_cat]; exact eq_of_beq hc) (kk p e s m args below meth c H locs cells slots mc ms ls hC)
      · cases h
    · cases h
  · cases h
theorem am_p_pop {l : Launch} {C : am_Cfg} {x : am_X} {dep bc bs pc pc' n : Nat} {mi : am_M} {L L' : List (Option Value)} {st st' : List Value} {S : am_S} {nn : Nat} {d : am_D} {Q : Option Value → am_S → Nat → am_D → Prop} (h : am_pop1 n pc L st = some (pc', L', st')) (hd : decode mi.2.1 pc = .ok (.pop, n)) (kk : am_W l C x dep bc bs mi pc' L' st' S nn d Q) : am_W l C x dep bc bs mi pc L st S nn d Q := by
  intro p e s m args below meth c H locs cells slots mc ms ls hC
  have hx := hC.1.1
  have hb := hC.1.2.1
  unfold am_pop1 at h; split at h
  · rename_i hn; subst hn; split at h
    · split at h
      · rename_i hc; cases h
        exact lv_pop hx hb hd (by rw [am_up_cat]; exact eq_of_beq hc) (kk p e s m args below meth c H locs cells slots mc ms ls hC)
      · cases h
    · cases h
  · cases h
theorem am_p_dup_x1 {l : Launch} {C : am_Cfg} {x : am_X} {dep bc bs pc pc' n : Nat} {mi : am_M} {L L' : List (Option Value)} {st st' : List Value} {S : am_S} {nn : Nat} {d : am_D} {Q : Option Value → am_S → Nat → am_D → Prop} (h : am_dupx1 n pc L st = some (pc', L', st')) (hd : decode mi.2.1 pc = .ok (.dup_x1, n)) (kk : am_W l C x dep bc bs mi pc' L' st' S nn d Q) : am_W l C x dep bc bs mi pc L st S nn d Q := by
  intro p e s m args below meth c H locs cells slots mc ms ls hC
  have hx := hC.1.1
  have hb := hC.1.2.1
  unfold am_dupx1 at h; split at h
  · rename_i hn; subst hn; split at h
    · split at h
      · rename_i hc; cases h
        exact lv_dup_x1 hx hb hd (by rw [am_up_cat]; exact eq_of_beq hc.1) (by rw [am_up_cat]; exact eq_of_beq hc.2) (kk p e s m args below meth c H locs cells slots mc ms ls hC)
      · cases h
    · cases h
  · cases h
theorem am_p_dup_x2 {l : Launch} {C : am_Cfg} {x : am_X} {dep bc bs pc pc' n : Nat} {mi : am_M} {L L' : List (Option Value)} {st st' : List Value} {S : am_S} {nn : Nat} {d : am_D} {Q : Option Value → am_S → Nat → am_D → Prop} (h : am_dupx2 n pc L st = some (pc', L', st')) (hd : decode mi.2.1 pc = .ok (.dup_x2, n)) (kk : am_W l C x dep bc bs mi pc' L' st' S nn d Q) : am_W l C x dep bc bs mi pc L st S nn d Q := by
  intro p e s m args below meth c H locs cells slots mc ms ls hC
  have hx := hC.1.1
  have hb := hC.1.2.1
  unfold am_dupx2 at h; split at h
  · rename_i hn; subst hn; split at h
    · split at h
      · rename_i hc; cases h
        exact lv_dup_x2 hx hb hd (by rw [am_up_cat]; exact eq_of_beq hc.1) (by rw [am_up_cat]; exact eq_of_beq hc.2.1) (by rw [am_up_cat]; exact eq_of_beq hc.2.2) (kk p e s m args below meth c H locs cells slots mc ms ls hC)
      · cases h
    · cases h
  · cases h
theorem am_p_dup2 {l : Launch} {C : am_Cfg} {x : am_X} {dep bc bs pc pc' n : Nat} {mi : am_M} {L L' : List (Option Value)} {st st' : List Value} {S : am_S} {nn : Nat} {d : am_D} {Q : Option Value → am_S → Nat → am_D → Prop} (h : am_dup2 n pc L st = some (pc', L', st')) (hd : decode mi.2.1 pc = .ok (.dup2, n)) (kk : am_W l C x dep bc bs mi pc' L' st' S nn d Q) : am_W l C x dep bc bs mi pc L st S nn d Q := by
  intro p e s m args below meth c H locs cells slots mc ms ls hC
  have hx := hC.1.1
  have hb := hC.1.2.1
  unfold am_dup2 at h; split at h
  · rename_i hn; subst hn; split at h
    · split at h
      · rename_i hc; cases h
        exact lv_dup2_11 hx hb hd (by rw [am_up_cat]; exact eq_of_beq hc.1) (by rw [am_up_cat]; exact eq_of_beq hc.2) (kk p e s m args below meth c H locs cells slots mc ms ls hC)
      · cases h
    · cases h
  · cases h
theorem am_p_goto {l : Launch} {C : am_Cfg} {x : am_X} {dep bc bs pc pc' n : Nat} {mi : am_M} {L L' : List (Option Value)} {st st' : List Value} {S : am_S} {nn : Nat} {d : am_D} {Q : Option Value → am_S → Nat → am_D → Prop} {off : Int} (h : am_jmp off n pc L st = some (pc', L', st')) (hd : decode mi.2.1 pc = .ok (.goto off, n)) (kk : am_W l C x dep bc bs mi pc' L' st' S nn d Q) : am_W l C x dep bc bs mi pc L st S nn d Q := by
  intro p e s m args below meth c H locs cells slots mc ms ls hC
  have hx := hC.1.1
  have hb := hC.1.2.1
  unfold am_jmp at h; split at h
  · rename_i hn; obtain ⟨hn1, hn2⟩ := hn; subst hn1; cases h
    exact lv_goto hx hb hd (Int.toNat_of_nonneg hn2).symm (kk p e s m args below meth c H locs cells slots mc ms ls hC)
  · cases h
theorem am_pure_ok {l : Launch} {C : am_Cfg} {x : am_X} {dep bc bs pc pc' n : Nat} {mi : am_M} {L L' : List (Option Value)} {st st' : List Value} {S : am_S} {nn : Nat} {d : am_D} {Q : Option Value → am_S → Nat → am_D → Prop} {i : Jvm.ClassFile.Instr} (h : am_pure mi.2.2.1 i n pc L st = some (pc', L', st')) (hd : decode mi.2.1 pc = .ok (i, n)) (kk : am_W l C x dep bc bs mi pc' L' st' S nn d Q) : am_W l C x dep bc bs mi pc L st S nn d Q := by
  unfold am_pure at h
  split at h
  · exact am_p_iconst h hd kk
  · exact am_p_bipush h hd kk
  · exact am_p_sipush h hd kk
  · exact am_p_iload h hd kk
  · exact am_p_iload_n h hd kk
  · exact am_p_aload h hd kk
  · exact am_p_aload_n h hd kk
  · exact am_p_istore h hd kk
  · exact am_p_istore_n h hd kk
  · exact am_p_astore h hd kk
  · exact am_p_astore_n h hd kk
  · exact am_p_iinc h hd kk
  · exact am_p_iadd h hd kk
  · exact am_p_isub h hd kk
  · exact am_p_imul h hd kk
  · exact am_p_iand h hd kk
  · exact am_p_ior h hd kk
  · exact am_p_ixor h hd kk
  · exact am_p_ishl h hd kk
  · exact am_p_ishr h hd kk
  · exact am_p_iushr h hd kk
  · exact am_p_ineg h hd kk
  · exact am_p_i2c h hd kk
  · exact am_p_dup h hd kk
  · exact am_p_pop h hd kk
  · exact am_p_dup_x1 h hd kk
  · exact am_p_dup_x2 h hd kk
  · exact am_p_dup2 h hd kk
  · exact am_p_goto h hd kk
  · cases h
def am_seg (nL : Nat) : List (Nat × Jvm.ClassFile.Instr × Nat) → Nat → List (Option Value) → List Value → Option (Nat × List (Option Value) × List Value)
  | [], pc, L, st => some (pc, L, st)
  | q :: qs, pc, L, st => if q.1 = pc then (match am_pure nL q.2.1 q.2.2 pc L st with
    | some r => am_seg nL qs r.1 r.2.1 r.2.2
    | none => none) else none
theorem am_seg_ok {l : Launch} {C : am_Cfg} {x : am_X} {dep bc bs pc' : Nat} {mi : am_M} {L' : List (Option Value)} {st' : List Value} {S : am_S} {nn : Nat} {d : am_D} {Q : Option Value → am_S → Nat → am_D → Prop} : ∀ (qs : List (Nat × Jvm.ClassFile.Instr × Nat)) (pc : Nat) (L : List (Option Value)) (st : List Value), (∀ q ∈ qs, decode mi.2.1 q.1 = .ok (q.2.1, q.2.2)) → am_seg mi.2.2.1 qs pc L st = some (pc', L', st') → am_W l C x dep bc bs mi pc' L' st' S nn d Q → am_W l C x dep bc bs mi pc L st S nn d Q
  | [], pc, L, st, _, h, kk => by
    unfold am_seg at h
    cases h
    exact kk
  | q :: qs, pc, L, st, hq, h, kk => by
    unfold am_seg at h
    split at h
    · rename_i e
      split at h
      · rename_i r hr
        refine am_pure_ok hr (by rw [← e]; exact hq q List.mem_cons_self) ?_
        exact am_seg_ok qs r.1 r.2.1 r.2.2 (fun w hw => hq w (List.mem_cons_of_mem _ hw)) h kk
      · cases h
    · cases h
/-- k instructions from the i-th of the method's list on -/
theorem am_go {l : Launch} {C : am_Cfg} {x : am_X} {dep bc bs pc : Nat} {mi : am_M} {L : List (Option Value)} {st : List Value} {S : am_S} {nn : Nat} {d : am_D} {Q : Option Value → am_S → Nat → am_D → Prop} {pc' : Nat} {L' : List (Option Value)} {st' : List Value} (cd : List (Nat × Jvm.ClassFile.Instr × Nat)) (hcd : ∀ q ∈ cd, decode mi.2.1 q.1 = .ok (q.2.1, q.2.2)) (i k : Nat) (h : am_seg mi.2.2.1 ((cd.drop i).take k) pc L st = some (pc', L', st')) (kk : am_W l C x dep bc bs mi pc' L' st' S nn d Q) : am_W l C x dep bc bs mi pc L st S nn d Q :=
  am_seg_ok _ pc L st (fun q hq => hcd q (List.mem_of_mem_drop (List.mem_of_mem_take hq))) h kk
