section MMX
variable {p : Program} {l : Launch} {e : Env} {R : Room} {s : State} {m : MethodId} {args : Array Value} {below : List Frame} {meth : Method} {c : Code} {H : Heap} {locs : List Loc} {cells slots : Nat} {Q : State → Prop}
set_option maxHeartbeats 1000000 in
theorem mm_W {cc : ByteArray} (hexec : p.tables.exec = Jvm.exec) (hb : c.code = cc) {own : String} {index : Nat} (hown : s.vm.findClass own = some m.cls)
    (hclink : (Cond.classLink own index ("[" ++ (FieldType.array .int).toString)).before args s = true) (hover : (Cond.arrayOver (.array .int)).before args s = true) (harr : (Cond.arrayClass .int).before args s = true)
    {pc : Nat} {ls : Array Slot} {rest : List Value} {n k : Int32} {N M : Nat} (hN : n.toNatClampNeg = N) (hM : k.toNatClampNeg = M) (hn : ¬ n < 0) (hk : ¬ k < 0) (hN4 : N ≤ 100000) (hM4 : M ≤ 100000)
    (hcells : cells + (1 + N) ≤ R.cells) (hslots : slots + (N + N * M) ≤ R.slots) (hdg : decode cc pc = .ok (.multianewarray index 2, 4))
    (kk : ∀ (H' : Heap) (cA comp : ClassId), H'.size = H.size + 1 + N → H'[H.size]? = some (arrV cA N (fun j => if j < N then .ref (H.size + 1 + j) else .null)) → (∀ j, j < N → H'[H.size + 1 + j]? = some (arrV comp M (fun _ => .int 0))) → (∀ q, q < H.size → H'[q]? = H[q]?) → ArrOfT s cA (.array .int) → ArrOfT s comp .int →
      W p l e R s m args below meth c H' (locs ++ (List.range N).map fun j => ⟨H.size, j⟩) (cells + 1 + N) (slots + N + N * M) Q (F0 m (pc + 4) ls (.ref H.size :: rest))) :
    W p l e R s m args below meth c H locs cells slots Q (F0 m pc ls (.int k :: .int n :: rest)) := by
  intro T hT X
  subst hT; subst hb
  have hpl : e.platform.magicAccessors = ({} : Platform).magicAccessors := by rw [X.admits.platform]
  obtain ⟨comp, cA, kA, hcomp, -, hkA, hkindA, hnameA⟩ := arrayOverA_spec hover
  obtain ⟨comp', kC, cc, hcomp', hkC, hkindC⟩ := Cond.arrayClass_spec harr
  have ecomp : comp' = comp := Option.some.inj (hcomp'.symm.trans hcomp)
  subst ecomp
  obtain ⟨c0, hfc0, hcl⟩ := Cond.classLink_spec hown hclink e.platform hpl
  cases hnameA.symm.trans hfc0
  obtain ⟨hg₁, hwarm₁, hready₁⟩ := State.classEntry (e := e) X.warmed hcl
  generalize T.vm.noted m.cls index (.cls cA) = vm₁ at hg₁ hwarm₁ hready₁
  have hal : s.vm.Alike vm₁ := hwarm₁.alike
  obtain ⟨kA₁, hkA₁, heA⟩ := hal.2.2 _ _ hkA
  obtain ⟨kC₁, hkC₁, heC⟩ := hal.2.2 _ _ hkC
  have hkindA₁ : kA₁.kind = .array comp' (.array .int) := by rw [heA]; exact hkindA
  have hkindC₁ : kC₁.kind = .array cc .int := by rw [heC]; exact hkindC
  have X₁ := X.noted hwarm₁
  obtain ⟨hr1, hr2⟩ := X.roomAbove hcells hslots
  have XF := mm_stand X₁ cA comp' N M N
  obtain ⟨f1, f2, f3, f4⟩ := mm_facts (T.setVm vm₁) cA comp' N M N
  obtain ⟨t', a1, b1⟩ := kk (mm_st (T.setVm vm₁) cA comp' N M N).heap cA comp' f1 f2 (fun j hj => mm_rows (T.setVm vm₁) cA comp' N M N j hj) (fun q hq => mm_old (T.setVm vm₁) cA comp' N M hq N)
    (fun n z => ⟨fun k h => (by cases h), kA, hkA, comp', hkindA⟩) (fun n z => ⟨fun k h => (by cases h), kC, hkC, cc, hkindC⟩) _ rfl XF
  refine ⟨t', ?_, b1⟩
  have hl1 : ¬ N > e.platform.arrayLengthLimit := by rw [Launch.admits_arrayLengthLimit X.admits]; omega
  have hh1 : ¬ N * componentBytes (.array .int) > e.platform.maxHeapBytes := by
    rw [Launch.admits_maxHeapBytes X.admits]; show ¬ N * 4 > 536870912; omega
  have hl2 : ¬ M > e.platform.arrayLengthLimit := by rw [Launch.admits_arrayLengthLimit X.admits]; omega
  have hh2 : ¬ M * componentBytes .int > e.platform.maxHeapBytes := by rw [Launch.admits_maxHeapBytes X.admits]; show ¬ M * 4 > 536870912; omega
  jvm_step X.here [hexec, hdg]
  simp only [Op.multianewarray.sem, wp_bind', W.resolveClassAt_links (State.method?_setTop (F0 m pc ls (.int k :: .int n :: rest)) X.here.top) hg₁]
  rw [W.popN, if_neg (by decide)]
  refine ⟨F0 m pc ls (.int k :: .int n :: rest), State.topJava?_setTop' (s := T.setVm vm₁) _ X.here.top, [.int n, .int k], rest, rfl, rfl, ?_⟩
  simp only [List.mapM_cons, List.mapM_nil, wp_bind', wp_pure']
  refine mm_make2 (k := kA₁) (kc := kC₁) (comp := comp') (cc := cc) hN hM hkA₁ hkindA₁ hkC₁ hkindC₁ hn hk hl1 hh1 hl2 hh2 (by show T.heap.size + 1 + _ ≤ _; omega) (by show T.slotsUsed + _ + _ ≤ _; omega) (fun d' acts' => ?_)
  have eS : ((T.setTop (F0 m pc ls (.int k :: .int n :: rest))).setVm vm₁).setTop (F0 m pc ls rest) = (T.setVm vm₁).setTop (F0 m pc ls rest) := by
    show ((T.setVm vm₁).setTop _).setTop _ = _
    rw [State.setTop_setTop]
  rw [show ({ F0 m pc ls (.int k :: .int n :: rest) with stack := rest } : JFrame) = F0 m pc ls rest from rfl, eS, mm_top]
  simp only [wp_bind', W.mark, W.pushRef, State.topJava?_setTop' _ XF.here.top, Option.some.injEq, exists_eq_left', State.setTop_setTop, State.heap_setTop]
  intro acts
  simp [jvm, XF.here.top]
  exact a1
end MMX
def am_ms (S : am_S) (n N M : Nat) : am_S := fun b => if b = n then (2, N, fun j => if j < N then some (n + 1 + j) else none) else if n < b ∧ b ≤ n + N then (0, M, fun _ => none) else S b
def am_md (d : am_D) (n N : Nat) : am_D := fun b => if n < b ∧ b ≤ n + N then (fun _ => 0) else d b
theorem am_multi {l : Launch} {C : am_Cfg} {x : am_X} {dep bc bs pc : Nat} {mi : am_M} {L : List (Option Value)} {st : List Value} {S : am_S} {nn : Nat} {d : am_D} {Q : Option Value → am_S → Nat → am_D → Prop} {idx : Nat} {u v : Int32} (N M : Nat) (hd : decode mi.2.1 pc = .ok (.multianewarray idx 2, 4)) (hl : Cond.classLink mi.1.cls idx ("[" ++ (FieldType.array .int).toString) ∈ am_ts C) (hw : Cond.arrayClass .int ∈ am_ts C) (hw2 : Cond.arrayOver (.array .int) ∈ am_ns C) (hu : u = nI N) (hv : v = nI M) (hN : N ≤ 500) (hM : M ≤ 100000) (hn : nn + 1 + N ≤ 1000)
    (kk : am_W l C x dep bc bs mi (pc + 4) L (.ref nn :: st) (am_ms S nn N M) (nn + 1 + N) (am_md d nn N) Q) : am_W l C x dep (bc + (1 + N)) (bs + (N + N * M)) mi pc L (.int v :: .int u :: st) S nn d Q := by
  intro p e s m args below meth c H locs cells slots mc ms ls hC
  obtain ⟨⟨hx, hb, hml, hr, hlk, hnm, hown, hts, hF⟩, hH, hS, hbc, hbs, hL⟩ := hC
  subst hu; subst hv
  have hq : ∀ j, nn + j < 1000 → am_ad x (nn + j) = H.size + j := fun j hj => by rw [hF.2.2.2.2.1 _ hj, hH.2.1]; omega
  have hq0 : am_ad x nn = H.size := hq 0 (by omega)
  refine mm_W (N := N) (M := M) hx hb hown (hts _ hl) (over_moved (Vm.Alike.refl _) (hF.2.1 _ hw2)) (hts _ hw) (nI_clamp (by omega)) (nI_clamp (by omega)) (nI_pos (by omega)) (nI_pos (by omega)) (by omega) hM (by show cells + (1 + N) ≤ mc; omega) (by show slots + (N + N * M) ≤ ms; omega) hd fun H' cA comp z1 z2 z3 z4 hA hI => ?_
  have hg := kk p e s m args below meth c H' (locs ++ (List.range N).map fun j => ⟨H.size, j⟩) (cells + 1 + N) (slots + N + N * M) mc ms ls ⟨⟨hx, hb, hml, hr, hlk, hnm, hown, hts, hF⟩, ⟨fun b hb' => ?_, by rw [z1, hH.2.1]; omega, hn⟩, ⟨by have := hS.1; omega, fun q h1 h2 => (z4 q (Nat.lt_of_lt_of_le h1 hS.1)).trans (hS.2.1 q h1 h2), fun q hq' => ?_⟩, by omega, by omega, hL⟩
  · rw [List.map_cons] at hg
    have e1 : am_up (am_ad x) (.ref nn) = .ref H.size := by show Value.ref (am_ad x nn) = _; rw [hq0]
    rw [e1] at hg
    exact hg
  · by_cases e1 : b = nn
    · subst e1
      refine ⟨fun z => by omega, fun _ => (am_own_2 (by unfold am_ms; rw [if_pos rfl])).mpr ⟨cA, ?_, hA⟩⟩
      rw [hq0, z2]
      unfold am_ms
      rw [if_pos rfl]
      congr 2
      funext j
      dsimp only
      by_cases hj : j < N
      · rw [if_pos hj, if_pos hj]
        show Value.ref (H.size + 1 + j) = Value.ref (am_ad x (b + 1 + j))
        rw [show b + 1 + j = b + (1 + j) by omega, hq (1 + j) (by omega), show H.size + 1 + j = H.size + (1 + j) by omega]
      · rw [if_neg hj, if_neg hj]; rfl
    · by_cases e2 : nn < b ∧ b ≤ nn + N
      · have e3 : am_ms S nn N M b = (0, M, fun _ => none) := by unfold am_ms; rw [if_neg e1, if_pos e2]
        have e4 : am_md d nn N b = fun _ => 0 := by unfold am_md; rw [if_pos e2]
        refine ⟨fun z => by omega, fun _ => (am_own_0 (by rw [e3])).mpr ⟨comp, ?_, hI⟩⟩
        rw [e3, e4]
        obtain ⟨j, rfl⟩ : ∃ j, b = nn + (1 + j) := ⟨b - nn - 1, by omega⟩
        rw [hq (1 + j) (by omega), show H.size + (1 + j) = H.size + 1 + j by omega]
        exact z3 j (by omega)
      · have e3 : am_ms S nn N M b = S b := by unfold am_ms; rw [if_neg e1, if_neg e2]
        have e4 : am_md d nn N b = d b := by unfold am_md; rw [if_neg e2]
        have hb2 : b < nn ∨ (1000 ≤ b ∧ b < 1002) := by omega
        refine ((hH.1 b hb2).kept (z4 _ ?_)).same e3 e4
        rcases hb2 with z | z
        · rw [hF.2.2.2.2.1 b (by omega), hH.2.1]; omega
        · have := hF.2.2.2.2.2 b z.1
          rw [hH.2.1]; omega
  · rcases List.mem_append.mp hq' with h | h
    · exact hS.2.2 q h
    · obtain ⟨j, -, rfl⟩ := List.mem_map.mp h
      show am_sz x ≤ H.size
      rw [hH.2.1]; omega
