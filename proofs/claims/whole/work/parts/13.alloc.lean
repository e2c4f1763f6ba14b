def am_nw (S : am_S) (a : Nat) (k : Nat × Nat × (Nat → Option Nat)) : am_S := fun b => if b = a then k else S b
def am_nd (d : am_D) (a : Nat) (f : Nat → Int32) : am_D := fun b => if b = a then f else d b
theorem am_nw_self {S : am_S} {a : Nat} {k : Nat × Nat × (Nat → Option Nat)} : am_nw S a k a = k := by unfold am_nw; rw [if_pos rfl]
theorem am_nd_self {d : am_D} {a : Nat} {f : Nat → Int32} : am_nd d a f a = f := by unfold am_nd; rw [if_pos rfl]
theorem am_nw_ne {S : am_S} {a b : Nat} {k : Nat × Nat × (Nat → Option Nat)} (h : b ≠ a) : am_nw S a k b = S b := by unfold am_nw; rw [if_neg h]
theorem am_nd_ne {d : am_D} {a b : Nat} {f : Nat → Int32} (h : b ≠ a) : am_nd d a f b = d b := by unfold am_nd; rw [if_neg h]
theorem am_H.push {C : am_Cfg} {x : am_X} {S : am_S} {n : Nat} {d : am_D} {U : State} {H H' : Heap} {k : Nat × Nat × (Nat → Option Nat)} {f : Nat → Int32} (hF : am_F C x U) (h : am_H C x S n d U H) (hn : n < 1000) (hz : H'.size = H.size + 1) (ho : ∀ q, q < H.size → H'[q]? = H[q]?) (hc : am_own C x (am_nw S n k) (am_nd d n f) U H' n) : am_H C x (am_nw S n k) (n + 1) (am_nd d n f) U H' := by
  obtain ⟨h1, h2, h3⟩ := h
  refine ⟨fun b hb => ?_, by omega, by omega⟩
  by_cases e : b = n
  · subst e
    exact ⟨fun z => by omega, fun _ => hc⟩
  · have hb' : b < n ∨ (1000 ≤ b ∧ b < 1002) := by omega
    refine ((h1 b hb').kept (ho _ ?_)).same (am_nw_ne e) (am_nd_ne e)
    rcases hb' with z | z
    · rw [hF.2.2.2.2.1 b (by omega)]; omega
    · have := hF.2.2.2.2.2 b z.1; omega
theorem am_S.push {x : am_X} {H0 H H' : Heap} {locs : List Loc} (hS : va_S (am_A x) H0 H locs) (hz : H'.size = H.size + 1) (ho : ∀ q, q < H.size → H'[q]? = H[q]?) : va_S (am_A x) H0 H' locs :=
  ⟨by have := hS.1; omega, fun q h1 h2 => (ho q (Nat.lt_of_lt_of_le h1 hS.1)).trans (hS.2.1 q h1 h2), hS.2.2⟩
theorem am_newI {l : Launch} {C : am_Cfg} {x : am_X} {dep bc bs pc : Nat} {mi : am_M} {L : List (Option Value)} {st : List Value} {S : am_S} {nn : Nat} {d : am_D} {Q : Option Value → am_S → Nat → am_D → Prop} {v : Int32} (N : Nat) (hd : decode mi.2.1 pc = .ok (.newarray .int, 2)) (hw : Cond.arrayClass .int ∈ am_ts C) (hv : v = nI N) (hN : N ≤ 100000) (hn : nn < 1000) (kk : am_W l C x dep bc bs mi (pc + 2) L (.ref nn :: st) (am_nw S nn (0, N, fun _ => none)) (nn + 1) (am_nd d nn (fun _ => 0)) Q) : am_W l C x dep (bc + 1) (bs + N) mi pc L (.int v :: st) S nn d Q := by
  intro p e s m args below meth c H locs cells slots mc ms ls hC
  obtain ⟨⟨hx, hb, hml, hr, hlk, hnm, hown, hts, hF⟩, hH, hS, hbc, hbs, hL⟩ := hC
  subst hv
  have hcl : (nI N).toNatClampNeg = N := nI_clamp (by omega)
  refine va_newaK (atype := .int) hx hb (hts _ hw) rfl hd rfl (nI_pos (by omega)) hcl (by show N * _ ≤ _; simp only [Op.newarray.typeOf, componentBytes]; omega) (by show cells + 1 ≤ mc; omega) (by show slots + N ≤ ms; omega) rfl fun H' cA e1 e2 e3 hA _ => ?_
  have hk : (am_nw S nn (0, N, fun _ => none) nn).1 = 0 := by rw [am_nw_self]
  have hq : H.size = am_ad x nn := by rw [hF.2.2.2.2.1 nn hn]; exact hH.2.1
  rw [hq]
  refine kk p e s m args below meth c H' locs (cells + 1) (slots + N) mc ms ls ⟨⟨hx, hb, hml, hr, hlk, hnm, hown, hts, hF⟩, am_H.push hF hH hn e2 e3 ((am_own_0 hk).mpr ⟨cA, ?_, hA⟩), am_S.push hS e2 e3, by omega, by omega, hL⟩
  rw [am_nw_self, am_nd_self, ← hq]
  exact e1
theorem am_newC {l : Launch} {C : am_Cfg} {x : am_X} {dep bc bs pc : Nat} {mi : am_M} {L : List (Option Value)} {st : List Value} {S : am_S} {nn : Nat} {d : am_D} {Q : Option Value → am_S → Nat → am_D → Prop} {v : Int32} (N : Nat) (hd : decode mi.2.1 pc = .ok (.newarray .char, 2)) (hw : Cond.arrayClass .char ∈ am_ts C) (hv : v = nI N) (hN : N ≤ 100000) (hn : nn < 1000) (kk : am_W l C x dep bc bs mi (pc + 2) L (.ref nn :: st) (am_nw S nn (1, N, fun _ => none)) (nn + 1) (am_nd d nn (fun _ => 0)) Q) : am_W l C x dep (bc + 1) (bs + N) mi pc L (.int v :: st) S nn d Q := by
  intro p e s m args below meth c H locs cells slots mc ms ls hC
  obtain ⟨⟨hx, hb, hml, hr, hlk, hnm, hown, hts, hF⟩, hH, hS, hbc, hbs, hL⟩ := hC
  subst hv
  have hcl : (nI N).toNatClampNeg = N := nI_clamp (by omega)
  refine va_newaK (atype := .char) hx hb (hts _ hw) rfl hd rfl (nI_pos (by omega)) hcl (by show N * _ ≤ _; simp only [Op.newarray.typeOf, componentBytes]; omega) (by show cells + 1 ≤ mc; omega) (by show slots + N ≤ ms; omega) rfl fun H' cA e1 e2 e3 hA _ => ?_
  have hk : (am_nw S nn (1, N, fun _ => none) nn).1 = 1 := by rw [am_nw_self]
  have hq : H.size = am_ad x nn := by rw [hF.2.2.2.2.1 nn hn]; exact hH.2.1
  rw [hq]
  refine kk p e s m args below meth c H' locs (cells + 1) (slots + N) mc ms ls ⟨⟨hx, hb, hml, hr, hlk, hnm, hown, hts, hF⟩, am_H.push hF hH hn e2 e3 ((am_own_1 hk).mpr ⟨cA, ?_, hA⟩), am_S.push hS e2 e3, by omega, by omega, hL⟩
  rw [am_nw_self, am_nd_self, ← hq]
  exact e1
theorem am_new {l : Launch} {C : am_Cfg} {x : am_X} {dep bc bs pc : Nat} {mi : am_M} {L : List (Option Value)} {st : List Value} {S : am_S} {nn : Nat} {d : am_D} {Q : Option Value → am_S → Nat → am_D → Prop} {idx : Nat} {ty0 : Nat → FieldType} (ci : Nat) (r : vw_C) (hd : decode mi.2.1 pc = .ok (.new idx, 3)) (hr : (am_cl C)[ci]? = some r) (hok : am_clok C r ty0) (hl : Cond.classLink mi.1.cls idx r.1 ∈ am_ts C) (hi : Cond.instantiable r.1 r.2.2 ∈ am_ts C) (hini : Cond.initialized r.1 ∈ am_ts C) (hdef : ∀ j, j < r.2.2 → defaultValue (ty0 j) = if am_rf C ci j = true then .null else .int 0) (hn : nn < 1000) (kk : am_W l C x dep bc bs mi (pc + 3) L (.ref nn :: st) (am_nw S nn (ci + 3, r.2.2, fun _ => none)) (nn + 1) (am_nd d nn (fun _ => 0)) Q) : am_W l C x dep (bc + 1) (bs + r.2.2) mi pc L st S nn d Q := by
  intro p e s m args below meth c H locs cells slots mc ms ls hC
  obtain ⟨⟨hx, hb, hml, hrt, hlk, hnm, hown, hts, hF⟩, hH, hS, hbc, hbs, hL⟩ := hC
  have hKn := hF.1.1 ci _ hr
  refine W.newcK hx hb hown (hts _ hl) (hts _ hi) (hts _ hini) rfl hd (by show cells + 1 ≤ mc; omega) (by show slots + r.2.2 ≤ ms; omega) hKn.2.1 rfl fun H' kC hkC e1 e2 e3 => ?_
  have hk : (am_nw S nn (ci + 3, r.2.2, fun _ => none) nn).1 = ci + 3 := by rw [am_nw_self]
  have hq : H.size = am_ad x nn := by rw [hF.2.2.2.2.1 nn hn]; exact hH.2.1
  rw [hq]
  refine kk p e s m args below meth c H' locs (cells + 1) (slots + r.2.2) mc ms ls ⟨⟨hx, hb, hml, hrt, hlk, hnm, hown, hts, hF⟩, am_H.push hF hH hn e2 e3 ((am_own_3 hk).mpr ⟨r, hr, by rw [am_nw_self], ?_⟩), am_S.push hS e2 e3, by omega, by omega, hL⟩
  rw [← hq]
  refine (u_born ty0 hts hok.1 hKn hkC e1 hok.2.1).to (fun j hj => ?_)
  rw [hdef j hj]
  unfold am_val
  rw [am_nw_self, am_nd_self]
  show _ = if am_rf C (ci + 3 - 3) j = true then va_rf none else .int 0
  rw [Nat.add_sub_cancel]
  rfl
def am_cp (d : am_D) (a b k : Nat) : am_D := fun q j => if q = b ∧ j < k then d a j else d q j
theorem am_cp_ne {d : am_D} {a b k : Nat} (q : Nat) (h : q ≠ b) : am_cp d a b k q = d q := by funext j; unfold am_cp; rw [if_neg (fun z => h z.1)]
theorem am_copy {l : Launch} {C : am_Cfg} {x : am_X} {dep bc bs pc : Nat} {mi : am_M} {L : List (Option Value)} {st : List Value} {S : am_S} {nn : Nat} {d : am_D} {Q : Option Value → am_S → Nat → am_D → Prop} {idx a b : Nat} {v : Int32} (k : Nat) (hd : decode mi.2.1 pc = .ok (.invokestatic idx, 3)) (hl : Cond.methodLink mi.1.cls idx arraycopyName ∈ am_ts C) (hnat : Cond.native arraycopyName ∈ am_ts C) (hstat : Cond.static arraycopyName ∈ am_ts C) (hini : Cond.initialized "java/lang/System" ∈ am_ts C) (hka : (S a).1 = 0) (hkb : (S b).1 = 0) (ha : a < nn) (hbn : b < nn) (hv : v = nI k) (h4 : k ≤ (S a).2.1) (h5 : k ≤ (S b).2.1) (hm : k < 2147483648) (hs : (st.map fun v => v.category).sum ≤ 8) (kk : am_W l C x (dep + 1) bc bs mi (pc + 3) L st S nn (am_cp d a b k) Q) : am_W l C x (dep + 1) bc bs mi pc L (.int v :: .int 0 :: .ref b :: .int 0 :: .ref a :: st) S nn d Q := by
  intro p e s m args below meth c H locs cells slots mc ms ls hC
  obtain ⟨⟨hx, hb, hml, hr, hlk, hnm, hown, hts, hF⟩, hH, hS, hbc, hbs, hL⟩ := hC
  subst hv
  have hcl : (nI k).toNatClampNeg = k := nI_clamp (by omega)
  have h0 : (0 : Int32).toNatClampNeg = 0 := sb_cl0
  have h00 : ¬ (0 : Int32) < 0 := by decide
  have hk0 : ¬ nI k < 0 := nI_pos (by omega)
  have hn := hH.2.2
  obtain ⟨c0, g0, t0⟩ := (am_own_0 hka).mp ((hH.1 a (Or.inl ha)).2 (by omega))
  obtain ⟨c1, g1, t1⟩ := (am_own_0 hkb).mp ((hH.1 b (Or.inl hbn)).2 (by omega))
  intro T hT X
  obtain ⟨-, k0, hk0', cm0, hkk0⟩ := t0 (S a).2.1 (fun j => .int (d a j))
  obtain ⟨-, k1, hk1', cm1, hkk1⟩ := t1 (S b).2.1 (fun j => .int (d b j))
  have hcat := am_cat (ad := am_ad x) hs
  have hnw : nativeFrameWords "java/lang/System" "arraycopy" 5 + 11 ≤ 60 := by decide +kernel
  have hfw : 2 * 0 + ((st.map (am_up (am_ad x))).map fun v => v.category).sum + (nativeFrameWords "java/lang/System" "arraycopy" 5 + 11) ≤ 80 * (dep + 1) := by omega
  obtain ⟨vm', X', step⟩ := X.arraycopy hx hown (hts _ hl) (hts _ hnat) (hts _ hstat) (hts _ hini) (src := am_ad x a) (dst := am_ad x b) (cs := arrV c0 (S a).2.1 (fun j => .int (d a j))) (cd := arrV c1 (S b).2.1 (fun j => .int (d b j))) (srcPos := 0) (destPos := 0) (n := nI k) (by rw [hT]; exact g0) (by rw [hT]; exact g1)
    (fun _ h => by cases h) (fun _ h => by cases h) (fun h => by cases h) (fun h => by cases h) hk0' hk1' hkk0 hkk1 (by simp [refKind]) h00 h00 hk0
    (by rw [nI_toInt (by omega), arrV_size]; show ¬ (0 : Int) + _ > _; omega)
    (by rw [nI_toInt (by omega), arrV_size]; show ¬ (0 : Int) + _ > _; omega)
    (fun vm₁ _ i hi => by
      rw [hcl] at hi
      have e : (arrV c0 (S a).2.1 (fun j => Value.int (d a j))).slots.getD ((0 : Int32).toNatClampNeg + i) .null = .int (d a ((0 : Int32).toNatClampNeg + i)) := by
        rw [Array.getD_eq_getD_getElem?, arrV_read _ _ (by rw [h0]; omega)]
        rfl
      refine ⟨?_, ?_⟩
      · rw [e]
        rfl
      · rw [e]
        exact trivial)
    (g := F0 m pc ls (.int (nI k) :: .int 0 :: .ref (am_ad x b) :: .int 0 :: .ref (am_ad x a) :: st.map (am_up (am_ad x)))) rfl (by show ls.size = _; rw [hml]; exact hL.1) (rest := st.map (am_up (am_ad x))) rfl (by rw [hb]; exact hd) (by show 1 ≤ dep + 1 + 998; omega) hfw
  have e1 : copied (arrV c0 (S a).2.1 (fun j => Value.int (d a j))) (arrV c1 (S b).2.1 (fun j => Value.int (d b j))) 0 0 (nI k) = arrV c1 (S b).2.1 (fun j => Value.int (va_cpy (d a) (d b) (0 : Int32).toNatClampNeg (0 : Int32).toNatClampNeg (nI k).toNatClampNeg j)) := va_copied (fun z => .int z) c0 c1 (d a) (d b) (by rw [h0, hcl]; omega)
  rw [h0, hcl] at e1
  have e4 : (fun j => Value.int (va_cpy (d a) (d b) 0 0 k j)) = fun j => Value.int (am_cp d a b k b j) := by
    funext j; unfold va_cpy am_cp
    by_cases hj : j < k <;> simp [hj]
  rw [e4] at e1
  rw [e1] at X' step
  have hlt : am_ad x b < H.size := (Array.getElem?_eq_some_iff.mp g1).1
  have hheap : ((T.setVm vm').setCell (am_ad x b) (arrV c1 (S b).2.1 (fun j => Value.int (am_cp d a b k b j)))).heap = H.setIfInBounds (am_ad x b) (arrV c1 (S b).2.1 (fun j => Value.int (am_cp d a b k b j))) := by rw [← hT]; rfl
  have oq : ∀ q : Nat, q ≠ am_ad x b → (H.setIfInBounds (am_ad x b) (arrV c1 (S b).2.1 (fun j => Value.int (am_cp d a b k b j))))[q]? = H[q]? := fun q hq => by simp [Array.getElem?_setIfInBounds, Ne.symm hq]
  have hA : am_A x (am_ad x b) := by show am_sz x ≤ am_ad x b; rw [hF.2.2.2.2.1 b (by omega)]; omega
  obtain ⟨t, a1, b1⟩ := kk p e s m args below meth c _ _ cells slots mc ms ls ⟨⟨hx, hb, hml, hr, hlk, hnm, hown, hts, hF⟩, am_H.put (S' := S) (d' := am_cp d a b k) hF hH hbn (by simp) oq (fun _ _ => rfl) am_cp_ne ((am_own_0 hkb).mpr ⟨c1, show (H.setIfInBounds (am_ad x b) _)[am_ad x b]? = some _ by simp [Array.getElem?_setIfInBounds, hlt], t1⟩), ⟨by simp; exact hS.1, fun q z1 z2 => by
      rw [oq q (fun e => z2 (by rw [e]; exact hA))]
      exact hS.2.1 q z1 z2, fun q hq => by
      rcases List.mem_append.mp hq with h | h
      · exact hS.2.2 q h
      · obtain ⟨z, -, hz⟩ := List.mem_map.mp h
        rw [← hz]
        exact hA⟩, hbc, hbs, hL⟩ _ hheap X'
  exact ⟨t, step t a1, b1⟩
