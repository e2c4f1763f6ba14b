theorem am_if_eq {l : Launch} {C : am_Cfg} {x : am_X} {dep bc bs pc : Nat} {mi : am_M} {L : List (Option Value)} {st : List Value} {S : am_S} {nn : Nat} {d : am_D} {Q : Option Value → am_S → Nat → am_D → Prop} {u : Int32} {off : Int} (tgt : Nat) (hd : decode mi.2.1 pc = .ok (.ifCond .eq off, 3)) (ht : (pc : Int) + off = (tgt : Int)) (kt : u = 0 → am_W l C x dep bc bs mi tgt L st S nn d Q) (kf : ¬ u = 0 → am_W l C x dep bc bs mi (pc + 3) L st S nn d Q) : am_W l C x dep bc bs mi pc L (.int u :: st) S nn d Q := by
  intro p e s m args below meth c H locs cells slots mc ms ls hC
  have hx := hC.1.1
  have hb := hC.1.2.1
  exact lv_if_eq hx hb hd ht (fun h => kt h p e s m args below meth c H locs cells slots mc ms ls hC) (fun h => kf h p e s m args below meth c H locs cells slots mc ms ls hC)
theorem am_icmp_eq {l : Launch} {C : am_Cfg} {x : am_X} {dep bc bs pc : Nat} {mi : am_M} {L : List (Option Value)} {st : List Value} {S : am_S} {nn : Nat} {d : am_D} {Q : Option Value → am_S → Nat → am_D → Prop} {u v : Int32} {off : Int} (tgt : Nat) (hd : decode mi.2.1 pc = .ok (.if_icmp .eq off, 3)) (ht : (pc : Int) + off = (tgt : Int)) (kt : u = v → am_W l C x dep bc bs mi tgt L st S nn d Q) (kf : ¬ u = v → am_W l C x dep bc bs mi (pc + 3) L st S nn d Q) : am_W l C x dep bc bs mi pc L (.int v :: .int u :: st) S nn d Q := by
  intro p e s m args below meth c H locs cells slots mc ms ls hC
  have hx := hC.1.1
  have hb := hC.1.2.1
  exact lv_icmp_eq hx hb hd ht (fun h => kt h p e s m args below meth c H locs cells slots mc ms ls hC) (fun h => kf h p e s m args below meth c H locs cells slots mc ms ls hC)
theorem am_if_ne {l : Launch} {C : am_Cfg} {x : am_X} {dep bc bs pc : Nat} {mi : am_M} {L : List (Option Value)} {st : List Value} {S : am_S} {nn : Nat} {d : am_D} {Q : Option Value → am_S → Nat → am_D → Prop} {u : Int32} {off : Int} (tgt : Nat) (hd : decode mi.2.1 pc = .ok (.ifCond .ne off, 3)) (ht : (pc : Int) + off = (tgt : Int)) (kt : ¬ u = 0 → am_W l C x dep bc bs mi tgt L st S nn d Q) (kf : u = 0 → am_W l C x dep bc bs mi (pc + 3) L st S nn d Q) : am_W l C x dep bc bs mi pc L (.int u :: st) S nn d Q := by
  intro p e s m args below meth c H locs cells slots mc ms ls hC
  have hx := hC.1.1
  have hb := hC.1.2.1
  exact lv_if_ne hx hb hd ht (fun h => kt h p e s m args below meth c H locs cells slots mc ms ls hC) (fun h => kf h p e s m args below meth c H locs cells slots mc ms ls hC)
theorem am_icmp_ne {l : Launch} {C : am_Cfg} {x : am_X} {dep bc bs pc : Nat} {mi : am_M} {L : List (Option Value)} {st : List Value} {S : am_S} {nn : Nat} {d : am_D} {Q : Option Value → am_S → Nat → am_D → Prop} {u v : Int32} {off : Int} (tgt : Nat) (hd : decode mi.2.1 pc = .ok (.if_icmp .ne off, 3)) (ht : (pc : Int) + off = (tgt : Int)) (kt : ¬ u = v → am_W l C x dep bc bs mi tgt L st S nn d Q) (kf : u = v → am_W l C x dep bc bs mi (pc + 3) L st S nn d Q) : am_W l C x dep bc bs mi pc L (.int v :: .int u :: st) S nn d Q := by
  intro p e s m args below meth c H locs cells slots mc ms ls hC
  have hx := hC.1.1
  have hb := hC.1.2.1
  exact lv_icmp_ne hx hb hd ht (fun h => kt h p e s m args below meth c H locs cells slots mc ms ls hC) (fun h => kf h p e s m args below meth c H locs cells slots mc ms ls hC)
theorem am_if_lt {l : Launch} {C : am_Cfg} {x : am_X} {dep bc bs pc : Nat} {mi : am_M} {L : List (Option Value)} {st : List Value} {S : am_S} {nn : Nat} {d : am_D} {Q : Option Value → am_S → Nat → am_D → Prop} {u : Int32} {off : Int} (tgt : Nat) (hd : decode mi.2.1 pc = .ok (.ifCond .lt off, 3)) (ht : (pc : Int) + off = (tgt : Int)) (kt : u < 0 → am_W l C x dep bc bs mi tgt L st S nn d Q) (kf : ¬ u < 0 → am_W l C x dep bc bs mi (pc + 3) L st S nn d Q) : am_W l C x dep bc bs mi pc L (.int u :: st) S nn d Q := by
  intro p e s m args below meth c H locs cells slots mc ms ls hC
  have hx := hC.1.1
  have hb := hC.1.2.1
  exact lv_if_lt hx hb hd ht (fun h => kt h p e s m args below meth c H locs cells slots mc ms ls hC) (fun h => kf h p e s m args below meth c H locs cells slots mc ms ls hC)
theorem am_icmp_lt {l : Launch} {C : am_Cfg} {x : am_X} {dep bc bs pc : Nat} {mi : am_M} {L : List (Option Value)} {st : List Value} {S : am_S} {nn : Nat} {d : am_D} {Q : Option Value → am_S → Nat → am_D → Prop} {u v : Int32} {off : Int} (tgt : Nat) (hd : decode mi.2.1 pc = .ok (.if_icmp .lt off, 3)) (ht : (pc : Int) + off = (tgt : Int)) (kt : u < v → am_W l C x dep bc bs mi tgt L st S nn d Q) (kf : ¬ u < v → am_W l C x dep bc bs mi (pc + 3) L st S nn d Q) : am_W l C x dep bc bs mi pc L (.int v :: .int u :: st) S nn d Q := by
  intro p e s m args below meth c H locs cells slots mc ms ls hC
  have hx := hC.1.1
  have hb := hC.1.2.1
  exact lv_icmp_lt hx hb hd ht (fun h => kt h p e s m args below meth c H locs cells slots mc ms ls hC) (fun h => kf h p e s m args below meth c H locs cells slots mc ms ls hC)
theorem am_if_ge {l : Launch} {C : am_Cfg} {x : am_X} {dep bc bs pc : Nat} {mi : am_M} {L : List (Option Value)} {st : List Value} {S : am_S} {nn : Nat} {d : am_D} {Q : Option Value → am_S → Nat → am_D → Prop} {u : Int32} {off : Int} (tgt : Nat) (hd : decode mi.2.1 pc = .ok (.ifCond .ge off, 3)) (ht : (pc : Int) + off = (tgt : Int)) (kt : 0 ≤ u → am_W l C x dep bc bs mi tgt L st S nn d Q) (kf : ¬ 0 ≤ u → am_W l C x dep bc bs mi (pc + 3) L st S nn d Q) : am_W l C x dep bc bs mi pc L (.int u :: st) S nn d Q := by
  intro p e s m args below meth c H locs cells slots mc ms ls hC
  have hx := hC.1.1
  have hb := hC.1.2.1
  exact lv_if_ge hx hb hd ht (fun h => kt h p e s m args below meth c H locs cells slots mc ms ls hC) (fun h => kf h p e s m args below meth c H locs cells slots mc ms ls hC)
theorem am_icmp_ge {l : Launch} {C : am_Cfg} {x : am_X} {dep bc bs pc : Nat} {mi : am_M} {L : List (Option Value)} {st : List Value} {S : am_S} {nn : Nat} {d : am_D} {Q : Option Value → am_S → Nat → am_D → Prop} {u v : Int32} {off : Int} (tgt : Nat) (hd : decode mi.2.1 pc = .ok (.if_icmp .ge off, 3)) (ht : (pc : Int) + off = (tgt : Int)) (kt : v ≤ u → am_W l C x dep bc bs mi tgt L st S nn d Q) (kf : ¬ v ≤ u → am_W l C x dep bc bs mi (pc + 3) L st S nn d Q) : am_W l C x dep bc bs mi pc L (.int v :: .int u :: st) S nn d Q := by
  intro p e s m args below meth c H locs cells slots mc ms ls hC
  have hx := hC.1.1
  have hb := hC.1.2.1
  exact lv_icmp_ge hx hb hd ht (fun h => kt h p e s m args below meth c H locs cells slots mc ms ls hC) (fun h => kf h p e s m args below meth c H locs cells slots mc ms ls hC)
theorem am_if_gt {l : Launch} {C : am_Cfg} {x : am_X} {dep bc bs pc : Nat} {mi : am_M} {L : List (Option Value)} {st : List Value} {S : am_S} {nn : Nat} {d : am_D} {Q : Option Value → am_S → Nat → am_D → Prop} {u : Int32} {off : Int} (tgt : Nat) (hd : decode mi.2.1 pc = .ok (.ifCond .gt off, 3)) (ht : (pc : Int) + off = (tgt : Int)) (kt : 0 < u → am_W l C x dep bc bs mi tgt L st S nn d Q) (kf : ¬ 0 < u → am_W l C x dep bc bs mi (pc + 3) L st S nn d Q) : am_W l C x dep bc bs mi pc L (.int u :: st) S nn d Q := by
  intro p e s m args below meth c H locs cells slots mc ms ls hC
  have hx := hC.1.1
  have hb := hC.1.2.1
  exact lv_if_gt hx hb hd ht (fun h => kt h p e s m args below meth c H locs cells slots mc ms ls hC) (fun h => kf h p e s m args below meth c H locs cells slots mc ms ls hC)
theorem am_icmp_gt {l : Launch} {C : am_Cfg} {x : am_X} {dep bc bs pc : Nat} {mi : am_M} {L : List (Option Value)} {st : List Value} {S : am_S} {nn : Nat} {d : am_D} {Q : Option Value → am_S → Nat → am_D → Prop} {u v : Int32} {off : Int} (tgt : Nat) (hd : decode mi.2.1 pc = .ok (.if_icmp .gt off, 3)) (ht : (pc : Int) + off = (tgt : Int)) (kt : v < u → am_W l C x dep bc bs mi tgt L st S nn d Q) (kf : ¬ v < u → am_W l C x dep bc bs mi (pc + 3) L st S nn d Q) : am_W l C x dep bc bs mi pc L (.int v :: .int u :: st) S nn d Q := by
  intro p e s m args below meth c H locs cells slots mc ms ls hC
  have hx := hC.1.1
  have hb := hC.1.2.1
  exact lv_icmp_gt hx hb hd ht (fun h => kt h p e s m args below meth c H locs cells slots mc ms ls hC) (fun h => kf h p e s m args below meth c H locs cells slots mc ms ls hC)
theorem am_if_le {l : Launch} {C : am_Cfg} {x : am_X} {dep bc bs pc : Nat} {mi : am_M} {L : List (Option Value)} {st : List Value} {S : am_S} {nn : Nat} {d : am_D} {Q : Option Value → am_S → Nat → am_D → Prop} {u : Int32} {off : Int} (tgt : Nat) (hd : decode mi.2.1 pc = .ok (.ifCond .le off, 3)) (ht : (pc : Int) + off = (tgt : Int)) (kt : u ≤ 0 → am_W l C x dep bc bs mi tgt L st S nn d Q) (kf : ¬ u ≤ 0 → am_W l C x dep bc bs mi (pc + 3) L st S nn d Q) : am_W l C x dep bc bs mi pc L (.int u :: st) S nn d Q := by
  intro p e s m args below meth c H locs cells slots mc ms ls hC
  have hx := hC.1.1
  have hb := hC.1.2.1
  exact lv_if_le hx hb hd ht (fun h => kt h p e s m args below meth c H locs cells slots mc ms ls hC) (fun h => kf h p e s m args below meth c H locs cells slots mc ms ls hC)
theorem am_icmp_le {l : Launch} {C : am_Cfg} {x : am_X} {dep bc bs pc : Nat} {mi : am_M} {L : List (Option Value)} {st : List Value} {S : am_S} {nn : Nat} {d : am_D} {Q : Option Value → am_S → Nat → am_D → Prop} {u v : Int32} {off : Int} (tgt : Nat) (hd : decode mi.2.1 pc = .ok (.if_icmp .le off, 3)) (ht : (pc : Int) + off = (tgt : Int)) (kt : u ≤ v → am_W l C x dep bc bs mi tgt L st S nn d Q) (kf : ¬ u ≤ v → am_W l C x dep bc bs mi (pc + 3) L st S nn d Q) : am_W l C x dep bc bs mi pc L (.int v :: .int u :: st) S nn d Q := by
  intro p e s m args below meth c H locs cells slots mc ms ls hC
  have hx := hC.1.1
  have hb := hC.1.2.1
  exact lv_icmp_le hx hb hd ht (fun h => kt h p e s m args below meth c H locs cells slots mc ms ls hC) (fun h => kf h p e s m args below meth c H locs cells slots mc ms ls hC)
theorem am_idiv {l : Launch} {C : am_Cfg} {x : am_X} {dep bc bs pc : Nat} {mi : am_M} {L : List (Option Value)} {st : List Value} {S : am_S} {nn : Nat} {d : am_D} {Q : Option Value → am_S → Nat → am_D → Prop} {u v : Int32} (hd : decode mi.2.1 pc = .ok (.idiv, 1)) (h0 : ¬ v = 0) (kk : am_W l C x dep bc bs mi (pc + 1) L (.int (u / v) :: st) S nn d Q) : am_W l C x dep bc bs mi pc L (.int v :: .int u :: st) S nn d Q := by
  intro p e s m args below meth c H locs cells slots mc ms ls hC
  have hx := hC.1.1
  have hb := hC.1.2.1
  exact lv_idiv hx hb hd h0 (kk p e s m args below meth c H locs cells slots mc ms ls hC)
theorem am_irem {l : Launch} {C : am_Cfg} {x : am_X} {dep bc bs pc : Nat} {mi : am_M} {L : List (Option Value)} {st : List Value} {S : am_S} {nn : Nat} {d : am_D} {Q : Option Value → am_S → Nat → am_D → Prop} {u v : Int32} (hd : decode mi.2.1 pc = .ok (.irem, 1)) (h0 : ¬ v = 0) (kk : am_W l C x dep bc bs mi (pc + 1) L (.int (u - u / v * v) :: st) S nn d Q) : am_W l C x dep bc bs mi pc L (.int v :: .int u :: st) S nn d Q := by
  intro p e s m args below meth c H locs cells slots mc ms ls hC
  have hx := hC.1.1
  have hb := hC.1.2.1
  exact lv_irem hx hb hd h0 (kk p e s m args below meth c H locs cells slots mc ms ls hC)
theorem am_ldc {l : Launch} {C : am_Cfg} {x : am_X} {dep bc bs pc : Nat} {mi : am_M} {L : List (Option Value)} {st : List Value} {S : am_S} {nn : Nat} {d : am_D} {Q : Option Value → am_S → Nat → am_D → Prop} {idx : Nat} (v : Int32) (hd : decode mi.2.1 pc = .ok (.ldc idx, 2)) (hw : Cond.constant mi.1.cls idx v ∈ am_ts C) (kk : am_W l C x dep bc bs mi (pc + 2) L (.int v :: st) S nn d Q) : am_W l C x dep bc bs mi pc L st S nn d Q := by
  intro p e s m args below meth c H locs cells slots mc ms ls hC
  have hx := hC.1.1
  have hb := hC.1.2.1
  exact lv_ldc hx hb hC.1.2.2.2.2.2.2.1 (hC.1.2.2.2.2.2.2.2.1 _ hw) hd (kk p e s m args below meth c H locs cells slots mc ms ls hC)
theorem am_tableIn {l : Launch} {C : am_Cfg} {x : am_X} {dep bc bs pc : Nat} {mi : am_M} {L : List (Option Value)} {st : List Value} {S : am_S} {nn : Nat} {d : am_D} {Q : Option Value → am_S → Nat → am_D → Prop} {dflt lo hi off : Int} {offs : Array Int} {len : Nat} {u : Int32} (tgt : Nat) (hd : decode mi.2.1 pc = .ok (.tableswitch dflt lo hi offs, len)) (h1 : ¬ u.toInt < lo) (h2 : ¬ hi < u.toInt) (ho : offs[(u.toInt - lo).toNat]? = some off) (ht : (pc : Int) + off = (tgt : Int)) (kk : am_W l C x dep bc bs mi tgt L st S nn d Q) : am_W l C x dep bc bs mi pc L (.int u :: st) S nn d Q := by
  intro p e s m args below meth c H locs cells slots mc ms ls hC
  have hx := hC.1.1
  have hb := hC.1.2.1
  exact lv_tableIn hx hb hd h1 h2 ho ht (kk p e s m args below meth c H locs cells slots mc ms ls hC)
theorem am_tableOut {l : Launch} {C : am_Cfg} {x : am_X} {dep bc bs pc : Nat} {mi : am_M} {L : List (Option Value)} {st : List Value} {S : am_S} {nn : Nat} {d : am_D} {Q : Option Value → am_S → Nat → am_D → Prop} {dflt lo hi : Int} {offs : Array Int} {len : Nat} {u : Int32} (tgt : Nat) (hd : decode mi.2.1 pc = .ok (.tableswitch dflt lo hi offs, len)) (h : u.toInt < lo ∨ hi < u.toInt) (ht : (pc : Int) + dflt = (tgt : Int)) (kk : am_W l C x dep bc bs mi tgt L st S nn d Q) : am_W l C x dep bc bs mi pc L (.int u :: st) S nn d Q := by
  intro p e s m args below meth c H locs cells slots mc ms ls hC
  have hx := hC.1.1
  have hb := hC.1.2.1
  exact lv_tableOut hx hb hd h ht (kk p e s m args below meth c H locs cells slots mc ms ls hC)
theorem am_own_0 {C : am_Cfg} {x : am_X} {S : am_S} {d : am_D} {U : State} {H : Heap} {a : Nat} (hk : (S a).1 = 0) : am_own C x S d U H a ↔ ∃ cA, H[am_ad x a]? = some (arrV cA (S a).2.1 (fun j => .int (d a j))) ∧ ArrOfT U cA .int := by
  unfold am_own; rw [hk]
theorem am_own_1 {C : am_Cfg} {x : am_X} {S : am_S} {d : am_D} {U : State} {H : Heap} {a : Nat} (hk : (S a).1 = 1) : am_own C x S d U H a ↔ ∃ cA, H[am_ad x a]? = some (arrV cA (S a).2.1 (fun j => .int (d a j))) ∧ ArrOfT U cA .char := by
  unfold am_own; rw [hk]
theorem am_own_2 {C : am_Cfg} {x : am_X} {S : am_S} {d : am_D} {U : State} {H : Heap} {a : Nat} (hk : (S a).1 = 2) : am_own C x S d U H a ↔ ∃ cA, H[am_ad x a]? = some (arrV cA (S a).2.1 (fun j => va_rf (((S a).2.2 j).map (am_ad x)))) ∧ ArrOfT U cA (.array .int) := by
  unfold am_own; rw [hk]
theorem am_own_3 {C : am_Cfg} {x : am_X} {S : am_S} {d : am_D} {U : State} {H : Heap} {a : Nat} {ci : Nat} (hk : (S a).1 = ci + 3) : am_own C x S d U H a ↔ ∃ r : vw_C, (am_cl C)[ci]? = some r ∧ (S a).2.1 = r.2.2 ∧ t_OB (am_ad x a) ((am_dg x).1 ci) r.2.2 ((am_dg x).2 ci) H (am_val C (am_ad x) S d a) := by
  unfold am_own; rw [hk]
theorem am_inj {x : am_X} {a b : Nat} (h1 : ∀ k, k < 1000 → am_ad x k = am_sz x + k) (h2 : ∀ k, 1000 ≤ k → am_ad x k < am_sz x) (ha : a < 1000) (hab : b ≠ a) : am_ad x b ≠ am_ad x a := by
  by_cases hb : b < 1000
  · rw [h1 a ha, h1 b hb]; omega
  · have := h2 b (by omega)
    rw [h1 a ha]; omega
theorem am_H.put {C : am_Cfg} {x : am_X} {S S' : am_S} {n : Nat} {d d' : am_D} {U : State} {H H' : Heap} {a : Nat} (hF : am_F C x U) (h : am_H C x S n d U H) (ha : a < n) (e2 : H'.size = H.size) (e3 : ∀ q, q ≠ am_ad x a → H'[q]? = H[q]?) (hS : ∀ b, b ≠ a → S' b = S b) (hd : ∀ b, b ≠ a → d' b = d b) (hc : am_own C x S' d' U H' a) : am_H C x S' n d' U H' := by
  obtain ⟨h1, h2, h3⟩ := h
  refine ⟨fun b hb => ?_, e2.trans h2, h3⟩
  by_cases e : b = a
  · subst e
    exact ⟨fun z => by omega, fun _ => hc⟩
  · exact ((h1 b hb).kept (e3 _ (am_inj hF.2.2.2.2.1 hF.2.2.2.2.2 (by omega) e))).same (hS b e) (hd b e)
def am_u (d : am_D) (a j : Nat) (v : Int32) : am_D := fun b k => if b = a ∧ k = j then v else d b k
theorem am_u_ne {d : am_D} {a j : Nat} {v : Int32} (b : Nat) (h : b ≠ a) : am_u d a j v b = d b := by
  funext k; unfold am_u; rw [if_neg (fun z => h z.1)]
theorem am_u_self {d : am_D} {a j : Nat} {v : Int32} : am_u d a j v a = upd (d a) j v := by
  funext k; unfold am_u upd; by_cases h : k = j <;> simp [h]
theorem am_u_V (d : am_D) (a j : Nat) (v : Int32) : updV (fun k => Value.int (d a k)) j (.int v) = fun k => Value.int (am_u d a j v a k) := by
  funext k; unfold updV am_u; by_cases h : k = j <;> simp [h]

theorem am_iaload {l : Launch} {C : am_Cfg} {x : am_X} {dep bc bs pc : Nat} {mi : am_M} {L : List (Option Value)} {st : List Value} {S : am_S} {nn : Nat} {d : am_D} {Q : Option Value → am_S → Nat → am_D → Prop} {a : Nat} {i : Int32} (j : Nat) (hd : decode mi.2.1 pc = .ok (.iaload, 1)) (hk : (S a).1 = 0) (ha : a < nn ∨ (1000 ≤ a ∧ a < 1002)) (hi : i = nI j) (hj : j < (S a).2.1) (hm : (S a).2.1 < 2147483648) (kk : am_W l C x dep bc bs mi (pc + 1) L (.int (d a j) :: st) S nn d Q) : am_W l C x dep bc bs mi pc L (.int i :: .ref a :: st) S nn d Q := by
  intro p e s m args below meth c H locs cells slots mc ms ls hC
  have hx := hC.1.1
  have hb := hC.1.2.1
  subst hi
  have hin := vp_in_nI hj (by omega : (S a).2.1 < 2 ^ 31)
  have hcl : (nI j).toNatClampNeg = j := nI_clamp (by omega)
  have hcell := hC.2.1.1 a ha
  by_cases hb1 : 1000 ≤ a
  · obtain ⟨-, scr, h1, h2, h3, h4, h6, h5⟩ := hcell.1 hb1
    exact W.iald (v := .int (d a j)) hx hb h1 h2 h3 (fun q => hin (q.imp id (Nat.le_trans h4))) (by rw [hcl]; exact h5 j hj) rfl rfl hd (kk p e s m args below meth c H locs cells slots mc ms ls hC)
  · obtain ⟨cA, h1, h2⟩ := (am_own_0 hk).mp (hcell.2 (by omega))
    exact W.iald (v := .int (d a j)) hx hb h1 (h2 _ _) (fun q => by cases q) (by rw [arrV_size]; exact hin) (by rw [hcl, arrV_read _ _ hj]) rfl rfl hd (kk p e s m args below meth c H locs cells slots mc ms ls hC)
theorem am_caload {l : Launch} {C : am_Cfg} {x : am_X} {dep bc bs pc : Nat} {mi : am_M} {L : List (Option Value)} {st : List Value} {S : am_S} {nn : Nat} {d : am_D} {Q : Option Value → am_S → Nat → am_D → Prop} {a : Nat} {i : Int32} (j : Nat) (hd : decode mi.2.1 pc = .ok (.caload, 1)) (hk : (S a).1 = 1) (ha : a < nn) (hi : i = nI j) (hj : j < (S a).2.1) (hm : (S a).2.1 < 2147483648) (kk : am_W l C x dep bc bs mi (pc + 1) L (.int (d a j) :: st) S nn d Q) : am_W l C x dep bc bs mi pc L (.int i :: .ref a :: st) S nn d Q := by
  intro p e s m args below meth c H locs cells slots mc ms ls hC
  have hx := hC.1.1
  have hb := hC.1.2.1
  subst hi
  have hin := vp_in_nI hj (by omega : (S a).2.1 < 2 ^ 31)
  have hcl : (nI j).toNatClampNeg = j := nI_clamp (by omega)
  have hn := hC.2.1.2.2
  obtain ⟨cA, h1, h2⟩ := (am_own_1 hk).mp ((hC.2.1.1 a (Or.inl ha)).2 (by omega))
  exact W.cald (v := .int (d a j)) hx hb h1 (h2 _ _) (fun q => by cases q) (by rw [arrV_size]; exact hin) (by rw [hcl, arrV_read _ _ hj]) rfl rfl hd (kk p e s m args below meth c H locs cells slots mc ms ls hC)
theorem am_aaload {l : Launch} {C : am_Cfg} {x : am_X} {dep bc bs pc : Nat} {mi : am_M} {L : List (Option Value)} {st : List Value} {S : am_S} {nn : Nat} {d : am_D} {Q : Option Value → am_S → Nat → am_D → Prop} {a : Nat} {i : Int32} (j r : Nat) (hd : decode mi.2.1 pc = .ok (.aaload, 1)) (hk : (S a).1 = 2) (ha : a < nn) (hi : i = nI j) (hj : j < (S a).2.1) (hm : (S a).2.1 < 2147483648) (hr : (S a).2.2 j = some r) (kk : am_W l C x dep bc bs mi (pc + 1) L (.ref r :: st) S nn d Q) : am_W l C x dep bc bs mi pc L (.int i :: .ref a :: st) S nn d Q := by
  intro p e s m args below meth c H locs cells slots mc ms ls hC
  have hx := hC.1.1
  have hb := hC.1.2.1
  subst hi
  have hin := vp_in_nI hj (by omega : (S a).2.1 < 2 ^ 31)
  have hcl : (nI j).toNatClampNeg = j := nI_clamp (by omega)
  have hn := hC.2.1.2.2
  obtain ⟨cA, h1, h2⟩ := (am_own_2 hk).mp ((hC.2.1.1 a (Or.inl ha)).2 (by omega))
  exact W.aald (v := .ref (am_ad x r)) hx hb h1 (h2 _ _) rfl (fun q => by cases q) (by rw [arrV_size]; exact hin) (by rw [hcl, arrV_read _ _ hj, hr]; rfl) rfl rfl hd (kk p e s m args below meth c H locs cells slots mc ms ls hC)
theorem am_alen {l : Launch} {C : am_Cfg} {x : am_X} {dep bc bs pc : Nat} {mi : am_M} {L : List (Option Value)} {st : List Value} {S : am_S} {nn : Nat} {d : am_D} {Q : Option Value → am_S → Nat → am_D → Prop} {a : Nat} {v : Int32} (hd : decode mi.2.1 pc = .ok (.arraylength, 1)) (hk : (S a).1 = 0) (ha : a < nn ∨ (1000 ≤ a ∧ a < 1002)) (hv : v = nI (S a).2.1) (kk : am_W l C x dep bc bs mi (pc + 1) L (.int v :: st) S nn d Q) : am_W l C x dep bc bs mi pc L (.ref a :: st) S nn d Q := by
  intro p e s m args below meth c H locs cells slots mc ms ls hC
  have hx := hC.1.1
  have hb := hC.1.2.1
  subst hv
  have hcell := hC.2.1.1 a ha
  by_cases hb1 : 1000 ≤ a
  · obtain ⟨-, scr, h1, h2, h3, h4, h6, h5⟩ := hcell.1 hb1
    exact W.alen hx hb h1 h2 (by rw [h6]; rfl) rfl rfl hd (kk p e s m args below meth c H locs cells slots mc ms ls hC)
  · obtain ⟨cA, h1, h2⟩ := (am_own_0 hk).mp (hcell.2 (by omega))
    exact W.alen hx hb h1 (h2 _ _) (by rw [arrV_size]; rfl) rfl rfl hd (kk p e s m args below meth c H locs cells slots mc ms ls hC)
theorem am_iastore {l : Launch} {C : am_Cfg} {x : am_X} {dep bc bs pc : Nat} {mi : am_M} {L : List (Option Value)} {st : List Value} {S : am_S} {nn : Nat} {d : am_D} {Q : Option Value → am_S → Nat → am_D → Prop} {a : Nat} {i v : Int32} (j : Nat) (hd : decode mi.2.1 pc = .ok (.iastore, 1)) (hk : (S a).1 = 0) (ha : a < nn) (hi : i = nI j) (hj : j < (S a).2.1) (hm : (S a).2.1 < 2147483648) (kk : am_W l C x dep bc bs mi (pc + 1) L st S nn (am_u d a j v) Q) : am_W l C x dep bc bs mi pc L (.int v :: .int i :: .ref a :: st) S nn d Q := by
  intro p e s m args below meth c H locs cells slots mc ms ls hC
  have hx := hC.1.1
  have hb := hC.1.2.1
  subst hi
  have hin := vp_in_nI hj (by omega : (S a).2.1 < 2 ^ 31)
  have hcl : (nI j).toNatClampNeg = j := nI_clamp (by omega)
  obtain ⟨hC1, hH, hS, hbc, hbs, hL⟩ := hC
  have hF := hC1.2.2.2.2.2.2.2.2
  have hn := hH.2.2
  obtain ⟨cA, h1, h2⟩ := (am_own_0 hk).mp ((hH.1 a (Or.inl ha)).2 (by omega))
  refine W.iast hx hb h1 (h2 _ _) (fun q => by cases q) (by rw [arrV_size]; exact hin) rfl rfl hd fun H' e1 e2 e3 => ?_
  rw [hcl] at e1 ⊢
  refine kk p e s m args below meth c H' _ cells slots mc ms ls ⟨hC1, am_H.put hF hH ha e2 e3 (fun _ _ => rfl) am_u_ne ((am_own_0 hk).mpr ⟨cA, ?_, h2⟩), hS.put e2 e3 ?_, hbc, hbs, hL⟩
  · rw [e1, arrV_store]
    have e4 := am_u_V d a j v
    first
      | rw [e4]
      | (have e5 : narrow .char (.int v) = .int v := rfl
         rw [e5, e4])
  · show am_sz x ≤ am_ad x a
    rw [hF.2.2.2.2.1 a (by omega)]; omega
theorem am_castore {l : Launch} {C : am_Cfg} {x : am_X} {dep bc bs pc : Nat} {mi : am_M} {L : List (Option Value)} {st : List Value} {S : am_S} {nn : Nat} {d : am_D} {Q : Option Value → am_S → Nat → am_D → Prop} {a : Nat} {i v : Int32} (j : Nat) (hd : decode mi.2.1 pc = .ok (.castore, 1)) (hk : (S a).1 = 1) (ha : a < nn) (hi : i = nI j) (hj : j < (S a).2.1) (hm : (S a).2.1 < 2147483648) (kk : am_W l C x dep bc bs mi (pc + 1) L st S nn (am_u d a j (vp_nar .char v)) Q) : am_W l C x dep bc bs mi pc L (.int v :: .int i :: .ref a :: st) S nn d Q := by
  intro p e s m args below meth c H locs cells slots mc ms ls hC
  have hx := hC.1.1
  have hb := hC.1.2.1
  subst hi
  have hin := vp_in_nI hj (by omega : (S a).2.1 < 2 ^ 31)
  have hcl : (nI j).toNatClampNeg = j := nI_clamp (by omega)
  obtain ⟨hC1, hH, hS, hbc, hbs, hL⟩ := hC
  have hF := hC1.2.2.2.2.2.2.2.2
  have hn := hH.2.2
  obtain ⟨cA, h1, h2⟩ := (am_own_1 hk).mp ((hH.1 a (Or.inl ha)).2 (by omega))
  refine W.cast hx hb h1 (h2 _ _) (fun q => by cases q) (by rw [arrV_size]; exact hin) rfl rfl hd fun H' e1 e2 e3 => ?_
  rw [hcl] at e1 ⊢
  refine kk p e s m args below meth c H' _ cells slots mc ms ls ⟨hC1, am_H.put hF hH ha e2 e3 (fun _ _ => rfl) am_u_ne ((am_own_1 hk).mpr ⟨cA, ?_, h2⟩), hS.put e2 e3 ?_, hbc, hbs, hL⟩
  · rw [e1, arrV_store]
    have e4 := am_u_V d a j (vp_nar .char v)
    first
      | rw [e4]
      | (have e5 : narrow .char (.int v) = .int (vp_nar .char v) := rfl
         rw [e5, e4])
  · show am_sz x ≤ am_ad x a
    rw [hF.2.2.2.2.1 a (by omega)]; omega
def am_va (C : am_Cfg) (S : am_S) (d : am_D) (a j : Nat) : Value := if am_rf C ((S a).1 - 3) j = true then va_rf ((S a).2.2 j) else .int (d a j)
theorem am_va_up (C : am_Cfg) (ad : Nat → Nat) (S : am_S) (d : am_D) (a j : Nat) : am_val C ad S d a j = am_up ad (am_va C S d a j) := by
  unfold am_val am_va
  split
  · cases (S a).2.2 j <;> rfl
  · rfl
def am_fl (C : am_Cfg) (own : String) (idx : Nat) (t : String × String × String × Bool) : Prop := Cond.fieldLink own idx t.1 t.2.1 t.2.2.1 ∈ am_ts C ∨ ∃ host, Cond.fieldLinkNest own idx t.1 t.2.1 t.2.2.1 host ∈ am_ns C
/-- a class's words, types and names -/
def am_clok (C : am_Cfg) (r : vw_C) (ty0 : Nat → FieldType) : Prop := (∀ w ∈ u_ws r.1 r.2.1 r.2.2, w ∈ am_ts C) ∧ (∀ k, k < r.2.2 → parseFieldDescriptor (r.2.1 k).2.2.1 = some (ty0 k)) ∧ (∀ a, a < r.2.2 → ∀ b, b < r.2.2 → a ≠ b → (r.2.1 a).2.1 ≠ (r.2.1 b).2.1)

theorem am_getf {l : Launch} {C : am_Cfg} {x : am_X} {dep bc bs pc : Nat} {mi : am_M} {L : List (Option Value)} {st : List Value} {S : am_S} {nn : Nat} {d : am_D} {Q : Option Value → am_S → Nat → am_D → Prop} {a idx : Nat} {v : Value} {ty0 : Nat → FieldType} (ci k : Nat) (r : vw_C) (hd : decode mi.2.1 pc = .ok (.getfield idx, 3)) (hk : (S a).1 = ci + 3) (ha : a < nn) (hr : (am_cl C)[ci]? = some r) (hkN : k < r.2.2) (hok : am_clok C r ty0) (hl : am_fl C mi.1.cls idx (r.2.1 k)) (hv : am_va C S d a k = v) (kk : am_W l C x dep bc bs mi (pc + 3) L (v :: st) S nn d Q) : am_W l C x dep bc bs mi pc L (.ref a :: st) S nn d Q := by
  intro p e s m args below meth c H locs cells slots mc ms ls hC
  have hx := hC.1.1
  have hb := hC.1.2.1
  have hts := hC.1.2.2.2.2.2.2.2.1
  have hown := hC.1.2.2.2.2.2.2.1
  have hF := hC.1.2.2.2.2.2.2.2.2
  have hn := hC.2.1.2.2
  obtain ⟨r', h1, hN, cell, q1, q2, q3, q4⟩ := (am_own_3 hk).mp ((hC.2.1.1 a (Or.inl ha)).2 (by omega))
  cases hr.symm.trans h1
  obtain ⟨hSl, hfc, kC, hkC, hkind⟩ := hF.1.1 ci _ hr
  obtain ⟨cf, kf, fi, f, hi, hsl⟩ := hSl k hkN
  have hst := (u_facts hfc hkC (u_lays hts hok.1 hkN) hi).1
  have hval : cell.slots[f.slot]? = some (am_up (am_ad x) v) := by rw [hsl, q4 k hkN, am_va_up, hv]
  have hkn : cell.vm ≠ .unknown := by rw [q3]; exact fun h => by cases h
  rcases hl with hl | ⟨host, hl⟩
  · exact W.getf hx hb hown (hts _ hl) hi hst q1 hkn hval rfl rfl hd (kk p e s m args below meth c H locs cells slots mc ms ls hC)
  · exact va_Wgetf hx hb hown (va_Nw.use rfl (hF.2.1 _ hl)) hi hst q1 hkn hval rfl rfl hd (kk p e s m args below meth c H locs cells slots mc ms ls hC)
theorem am_putI {l : Launch} {C : am_Cfg} {x : am_X} {dep bc bs pc : Nat} {mi : am_M} {L : List (Option Value)} {st : List Value} {S : am_S} {nn : Nat} {d : am_D} {Q : Option Value → am_S → Nat → am_D → Prop} {a idx : Nat} {v : Int32} {ty0 : Nat → FieldType} (ci k : Nat) (r : vw_C) (hd : decode mi.2.1 pc = .ok (.putfield idx, 3)) (hk : (S a).1 = ci + 3) (ha : a < nn) (hr : (am_cl C)[ci]? = some r) (hkN : k < r.2.2) (hok : am_clok C r ty0) (hl : Cond.fieldLink mi.1.cls idx (r.2.1 k).1 (r.2.1 k).2.1 (r.2.1 k).2.2.1 ∈ am_ts C) (hfin : (r.2.1 k).2.2.2 = false) (hrf : am_rf C ci k = false) (hnar : narrow (ty0 k) (.int v) = .int v) (hfit : fits (ty0 k) (.int v) = true) (kk : am_W l C x dep bc bs mi (pc + 3) L st S nn (am_u d a k v) Q) : am_W l C x dep bc bs mi pc L (.int v :: .ref a :: st) S nn d Q := by
  intro p e s m args below meth c H locs cells slots mc ms ls hC
  have hx := hC.1.1
  have hb := hC.1.2.1
  obtain ⟨hC1, hH, hS, hbc, hbs, hL⟩ := hC
  have hts := hC1.2.2.2.2.2.2.2.1
  have hown := hC1.2.2.2.2.2.2.1
  have hF := hC1.2.2.2.2.2.2.2.2
  have hn := hH.2.2
  have hap := va_apart (own := mi.1.cls) hts hok.1 ty0 hok.2.1 hok.2.2 hF.1 hr
  obtain ⟨r', h1, hN, cell, q1, q2, q3, q4⟩ := (am_own_3 hk).mp ((hH.1 a (Or.inl ha)).2 (by omega))
  cases hr.symm.trans h1
  obtain ⟨hSl, hfc, kC, hkC, hkind⟩ := hF.1.1 ci _ hr
  obtain ⟨cf, kf, fi, f, hi, hsl⟩ := hSl k hkN
  have hlay := hts _ (hok.1 _ (u_in_lay hkN))
  unfold u_lay at hlay
  rw [if_neg (by rw [hfin]; decide)] at hlay
  have hst := (u_facts hfc hkC (u_lays hts hok.1 hkN) hi).1
  have h6 := u_store hfc hkC hkind hlay hi (hok.2.1 k hkN) hnar hfit
  refine W.putK hx hb (f := f) ⟨hown, hts _ hl, ⟨_, _, _, hi⟩, hst⟩ (by rw [q2]; exact h6) q1 q3 (by rw [hsl]; exact k2_hasslot (q4 k hkN)) rfl rfl hd fun H' e1 e2 e3 => ?_
  rw [hsl] at e1 ⊢
  refine kk p e s m args below meth c H' _ cells slots mc ms ls ⟨hC1, am_H.put hF hH ha e2 e3 (fun _ _ => rfl) am_u_ne ((am_own_3 hk).mpr ⟨r, hr, hN, t_OB.to (V := updV (am_val C (am_ad x) S d a) k (.int v)) ⟨_, e1, q2, q3, t_set q4 hap hkN (.int v)⟩ (fun j _ => ?_)⟩), hS.put e2 e3 ?_, hbc, hbs, hL⟩
  · unfold updV am_val am_u
    rw [hk]
    by_cases hjk : j = k
    · subst hjk; simp [hrf]
    · simp [hjk]
  · show am_sz x ≤ am_ad x a
    rw [hF.2.2.2.2.1 a (by omega)]; omega
def am_r (S : am_S) (a j r : Nat) : am_S := fun b => if b = a then ((S a).1, (S a).2.1, fun k => if k = j then some r else (S a).2.2 k) else S b
theorem am_r_ne {S : am_S} {a j r : Nat} (b : Nat) (h : b ≠ a) : am_r S a j r b = S b := by unfold am_r; rw [if_neg h]
theorem am_r_self {S : am_S} {a j r : Nat} : am_r S a j r a = ((S a).1, (S a).2.1, fun k => if k = j then some r else (S a).2.2 k) := by unfold am_r; rw [if_pos rfl]
theorem am_putR {l : Launch} {C : am_Cfg} {x : am_X} {dep bc bs pc : Nat} {mi : am_M} {L : List (Option Value)} {st : List Value} {S : am_S} {nn : Nat} {d : am_D} {Q : Option Value → am_S → Nat → am_D → Prop} {a idx b : Nat} {ty0 : Nat → FieldType} (ci k : Nat) (r : vw_C) (hd : decode mi.2.1 pc = .ok (.putfield idx, 3)) (hk : (S a).1 = ci + 3) (ha : a < nn) (hr : (am_cl C)[ci]? = some r) (hkN : k < r.2.2) (hok : am_clok C r ty0) (hl : Cond.fieldLink mi.1.cls idx (r.2.1 k).1 (r.2.1 k).2.1 (r.2.1 k).2.2.1 ∈ am_ts C) (hfin : (r.2.1 k).2.2.2 = true) (hin : mi.1.name = "<init>") (hdecl : (r.2.1 k).1 = mi.1.cls) (hrf : am_rf C ci k = true) (hnar : narrow (ty0 k) (.ref (am_ad x b)) = .ref (am_ad x b)) (hfit : fits (ty0 k) (.ref (am_ad x b)) = true) (kk : am_W l C x dep bc bs mi (pc + 3) L st (am_r S a k b) nn d Q) : am_W l C x dep bc bs mi pc L (.ref b :: .ref a :: st) S nn d Q := by
  intro p e s m args below meth c H locs cells slots mc ms ls hC
  have hx := hC.1.1
  have hb := hC.1.2.1
  obtain ⟨hC1, hH, hS, hbc, hbs, hL⟩ := hC
  have hts := hC1.2.2.2.2.2.2.2.1
  have hown := hC1.2.2.2.2.2.2.1
  have hnm := hC1.2.2.2.2.2.1
  have hF := hC1.2.2.2.2.2.2.2.2
  have hn := hH.2.2
  have hap := va_apart (own := mi.1.cls) hts hok.1 ty0 hok.2.1 hok.2.2 hF.1 hr
  obtain ⟨r', h1, hN, cell, q1, q2, q3, q4⟩ := (am_own_3 hk).mp ((hH.1 a (Or.inl ha)).2 (by omega))
  cases hr.symm.trans h1
  obtain ⟨hSl, hfc, kC, hkC, hkind⟩ := hF.1.1 ci _ hr
  obtain ⟨cf, kf, fi, f, hi, hsl⟩ := hSl k hkN
  have hlay := hts _ (hok.1 _ (u_in_lay hkN))
  unfold u_lay at hlay
  rw [if_pos hfin] at hlay
  have hst := (u_facts hfc hkC (u_lays hts hok.1 hkN) hi).1
  have hcf : m.cls = cf := by
    obtain ⟨_, _, c', _, _, _, -, -, hf', -, -, -, hown2, -⟩ := Cond.laysFinal_spec hlay
    have e1 : c' = cf := by have := hi.symm.trans hf'; simp at this; exact this.1.symm
    rw [hdecl] at hown2
    rw [← e1]; exact Option.some.inj (hown.symm.trans hown2)
  have h6 := u_fits hfc hkC hkind (Or.inr hlay) hi (hok.2.1 k hkN) hnar hfit
  refine W.putFinK hx hb hown (hts _ hl) hi hst hcf (hnm hin) (by rw [q2]; exact h6) q1 q3 (by rw [hsl]; exact k2_hasslot (q4 k hkN)) rfl rfl hd fun H' e1 e2 e3 => ?_
  rw [hsl] at e1 ⊢
  have hk' : (am_r S a k b a).1 = ci + 3 := by rw [am_r_self]; exact hk
  refine kk p e s m args below meth c H' _ cells slots mc ms ls ⟨hC1, am_H.put hF hH ha e2 e3 am_r_ne (fun _ _ => rfl) ((am_own_3 hk').mpr ⟨r, hr, by rw [am_r_self]; exact hN, t_OB.to (V := updV (am_val C (am_ad x) S d a) k (.ref (am_ad x b))) ⟨_, e1, q2, q3, t_set q4 hap hkN (.ref (am_ad x b))⟩ (fun j _ => ?_)⟩), hS.put e2 e3 ?_, hbc, hbs, hL⟩
  · unfold updV am_val
    rw [am_r_self, hk]
    by_cases hjk : j = k
    · subst hjk; simp [hrf, va_rf]
    · simp [hjk]
  · show am_sz x ≤ am_ad x a
    rw [hF.2.2.2.2.1 a (by omega)]; omega
theorem am_putS {l : Launch} {C : am_Cfg} {x : am_X} {dep bc bs pc : Nat} {mi : am_M} {L : List (Option Value)} {st : List Value} {S : am_S} {nn : Nat} {d : am_D} {Q : Option Value → am_S → Nat → am_D → Prop} {a idx b : Nat} {ty0 : Nat → FieldType} (ci k : Nat) (r : vw_C) (hd : decode mi.2.1 pc = .ok (.putfield idx, 3)) (hk : (S a).1 = ci + 3) (ha : a < nn) (hr : (am_cl C)[ci]? = some r) (hkN : k < r.2.2) (hok : am_clok C r ty0) (hl : Cond.fieldLink mi.1.cls idx (r.2.1 k).1 (r.2.1 k).2.1 (r.2.1 k).2.2.1 ∈ am_ts C) (hfin : (r.2.1 k).2.2.2 = false) (hrf : am_rf C ci k = true) (hnar : narrow (ty0 k) (.ref (am_ad x b)) = .ref (am_ad x b)) (hfit : fits (ty0 k) (.ref (am_ad x b)) = true) (kk : am_W l C x dep bc bs mi (pc + 3) L st (am_r S a k b) nn d Q) : am_W l C x dep bc bs mi pc L (.ref b :: .ref a :: st) S nn d Q := by
  intro p e s m args below meth c H locs cells slots mc ms ls hC
  have hx := hC.1.1
  have hb := hC.1.2.1
  obtain ⟨hC1, hH, hS, hbc, hbs, hL⟩ := hC
  have hts := hC1.2.2.2.2.2.2.2.1
  have hown := hC1.2.2.2.2.2.2.1
  have hF := hC1.2.2.2.2.2.2.2.2
  have hn := hH.2.2
  have hap := va_apart (own := mi.1.cls) hts hok.1 ty0 hok.2.1 hok.2.2 hF.1 hr
  obtain ⟨r', h1, hN, cell, q1, q2, q3, q4⟩ := (am_own_3 hk).mp ((hH.1 a (Or.inl ha)).2 (by omega))
  cases hr.symm.trans h1
  obtain ⟨hSl, hfc, kC, hkC, hkind⟩ := hF.1.1 ci _ hr
  obtain ⟨cf, kf, fi, f, hi, hsl⟩ := hSl k hkN
  have hlay := hts _ (hok.1 _ (u_in_lay hkN))
  unfold u_lay at hlay
  rw [if_neg (by rw [hfin]; decide)] at hlay
  have hst := (u_facts hfc hkC (u_lays hts hok.1 hkN) hi).1
  have h6 := u_store hfc hkC hkind hlay hi (hok.2.1 k hkN) hnar hfit
  refine W.putK hx hb (f := f) ⟨hown, hts _ hl, ⟨_, _, _, hi⟩, hst⟩ (by rw [q2]; exact h6) q1 q3 (by rw [hsl]; exact k2_hasslot (q4 k hkN)) rfl rfl hd fun H' e1 e2 e3 => ?_
  rw [hsl] at e1 ⊢
  have hk' : (am_r S a k b a).1 = ci + 3 := by rw [am_r_self]; exact hk
  refine kk p e s m args below meth c H' _ cells slots mc ms ls ⟨hC1, am_H.put hF hH ha e2 e3 am_r_ne (fun _ _ => rfl) ((am_own_3 hk').mpr ⟨r, hr, by rw [am_r_self]; exact hN, t_OB.to (V := updV (am_val C (am_ad x) S d a) k (.ref (am_ad x b))) ⟨_, e1, q2, q3, t_set q4 hap hkN (.ref (am_ad x b))⟩ (fun j _ => ?_)⟩), hS.put e2 e3 ?_, hbc, hbs, hL⟩
  · unfold updV am_val
    rw [am_r_self, hk]
    by_cases hjk : j = k
    · subst hjk; simp [hrf, va_rf]
    · simp [hjk]
  · show am_sz x ≤ am_ad x a
    rw [hF.2.2.2.2.1 a (by omega)]; omega
theorem am_gets {l : Launch} {C : am_Cfg} {x : am_X} {dep bc bs pc : Nat} {mi : am_M} {L : List (Option Value)} {st : List Value} {S : am_S} {nn : Nat} {d : am_D} {Q : Option Value → am_S → Nat → am_D → Prop} {idx : Nat} (z : String × String × String × Nat) (hd : decode mi.2.1 pc = .ok (.getstatic idx, 3)) (hz : z ∈ am_zs C) (hl : Cond.fieldLink mi.1.cls idx z.1 z.2.1 z.2.2.1 ∈ am_ts C) (kk : am_W l C x dep bc bs mi (pc + 3) L (.ref z.2.2.2 :: st) S nn d Q) : am_W l C x dep bc bs mi pc L st S nn d Q := by
  intro p e s m args below meth c H locs cells slots mc ms ls hC
  have hx := hC.1.1
  have hb := hC.1.2.1
  exact va_gets hx hb (hC.1.2.2.2.2.2.2.2.2.2.2.1 z hz) hC.2.2.1 hC.1.2.2.2.2.2.2.1 (hC.1.2.2.2.2.2.2.2.1 _ hl) (fun _ h => h) hd (kk p e s m args below meth c H locs cells slots mc ms ls hC)
theorem am_iret {l : Launch} {C : am_Cfg} {x : am_X} {dep bc bs pc : Nat} {mi : am_M} {L : List (Option Value)} {S : am_S} {nn : Nat} {d : am_D} {Q : Option Value → am_S → Nat → am_D → Prop} {v : Int32} {ty : FieldType} (hd : decode mi.2.1 pc = .ok (.ireturn, 1)) (hret : mi.2.2.2 = some ty) (hnar : narrow ty (.int v) = .int v) (hq : Q (some (.int v)) S nn d) : am_W l C x dep bc bs mi pc L [.int v] S nn d Q := by
  intro p e s m args below meth c H locs cells slots mc ms ls hC
  have hx := hC.1.1
  have hb := hC.1.2.1
  have hlk : meth.locks = false := hC.1.2.2.2.2.1
  have hS := hC.2.2.1
  refine W.widen (k := mc) (n := ms) (by have := hC.2.2.2.1; omega) (by have := hC.2.2.2.2.1; omega) ?_
  exact W.zret hx hb (hC.1.2.2.2.1.trans hret) hnar (fun t ht hW => ⟨(some (.int v)), S, nn, d, rfl, hq, by rw [ht]; exact hC.2.1.moved hW.alike, hS.F ht⟩) hS.2.2 hd hlk
theorem am_vret {l : Launch} {C : am_Cfg} {x : am_X} {dep bc bs pc : Nat} {mi : am_M} {L : List (Option Value)} {S : am_S} {nn : Nat} {d : am_D} {Q : Option Value → am_S → Nat → am_D → Prop} (hd : decode mi.2.1 pc = .ok (.return_, 1)) (hret : mi.2.2.2 = none) (hq : Q none S nn d) : am_W l C x dep bc bs mi pc L [] S nn d Q := by
  intro p e s m args below meth c H locs cells slots mc ms ls hC
  have hx := hC.1.1
  have hb := hC.1.2.1
  have hlk : meth.locks = false := hC.1.2.2.2.2.1
  have hS := hC.2.2.1
  refine W.widen (k := mc) (n := ms) (by have := hC.2.2.2.1; omega) (by have := hC.2.2.2.2.1; omega) ?_
  exact W.vret hx hb (hC.1.2.2.2.1.trans hret) (fun t ht hW => ⟨none, S, nn, d, rfl, hq, by rw [ht]; exact hC.2.1.moved hW.alike, hS.F ht⟩) hS.2.2 hd hlk
def am_good (C : am_Cfg) (mj : am_M) (k : Nat) : Prop := Cond.code mj.1 mj.2.1 mj.2.2.1 mj.2.2.2 ∈ am_ts C ∧ Cond.initialized mj.1.cls ∈ am_ts C ∧ (mj.1.cls ≠ "java/lang/invoke/MethodHandle" ∧ mj.1.cls ≠ "java/lang/invoke/VarHandle" ∧ (parseMethodDescriptor mj.1.desc).map (fun d => d.parameters.length) = some k) ∧ mj.2.2.1 ≤ 60
def am_ml (C : am_Cfg) (own : String) (idx : Nat) (mj : am_M) : Prop := Cond.methodLink own idx mj.1 ∈ am_ts C ∨ ∃ host, Cond.methodLinkNest own idx mj.1 host ∈ am_ns C
theorem am_goodIn {C : am_Cfg} (hok : am_ok C) {mj : am_M} {k : Nat} (hg : am_good C mj k) : GoodIn (am_ts C) (am_ws C mj) := by
  intro w hw
  rcases List.mem_cons.mp hw with rfl | hw
  · exact ⟨hg.1, hok.1 _ hg.1⟩
  · exact ⟨hw, hok.1 _ hw⟩
theorem am_blind {C : am_Cfg} (hok : am_ok C) {x : am_X} {S : am_S} {nn : Nat} {d : am_D} {av : List Value} : FrameBlind (va_Pc av (fun U => am_F C x U ∧ am_H C x S nn d U U.heap)) := by
  intro a U g mk h
  obtain ⟨h0, hF, hH⟩ := h
  have hal : U.vm.Alike (U.calling g mk a).vm := Vm.Alike.refl _
  exact ⟨h0, ⟨va_K.moved hal hF.1, fun w hw => (hok.2 w hw).2 U (U.calling g mk a) rfl (hF.2.1 w hw), fun z hz => (hF.2.2.1 z hz).moved hal, hF.2.2.2⟩, hH.moved hal⟩
theorem am_call {p : Program} {l : Launch} {e : Env} {R : Room} {s : State} {m : MethodId} {args : Array Value} {below : List Frame} {meth : Method} {c : Code} {H : Heap} {locs : List Loc} {cells slots mc ms pc : Nat} {Qs : State → Prop} {C : am_Cfg} {x : am_X} {Q' : Option Value → am_S → Nat → am_D → Prop} {a : Array Value} {ls : Array Slot} {st0 rest : List Value}
    (hr : va_Run p l e R s m args below meth c H locs cells slots mc ms (F0 m pc ls st0) rest (am_Qc C x Q' a) (am_A x)) (hS : va_S (am_A x) s.heap H locs)
    (kk : ∀ (r : Option Value) (S : am_S) (n : Nat) (d : am_D) (H1 : Heap) (locs1 : List Loc), Q' r S n d → am_H C x S n d s H1 → va_S (am_A x) s.heap H1 locs1 → W p l e R s m args below meth c H1 locs1 (cells + mc) (slots + ms) Qs (F0 m (pc + 3) ls ((r.map (am_up (am_ad x))).toList ++ rest))) : W p l e R s m args below meth c H locs cells slots Qs (F0 m pc ls st0) := by
  intro T hT X
  obtain ⟨v, st₀, t, T', L, h0, X', hL, e1, e2, ⟨r, S, n, d, hv, hq, hH, hz, hk⟩, stp⟩ := hr T hT X
  cases hv
  rw [h0] at hz hk
  have hal : s.vm.Alike t.vm := by rw [← e2]; exact X'.warmed.alike
  obtain ⟨t2, a1, b1⟩ := kk r S n d T'.heap (locs ++ L) hq (by rw [e1]; exact hH.moved hal.symm)
    ⟨Nat.le_trans hS.1 (by rw [e1]; exact hz), fun q h1 h2 => by rw [e1, hk q (Nat.lt_of_lt_of_le h1 hS.1) h2]; exact hS.2.1 q h1 h2, fun q hq => by
      rcases List.mem_append.mp hq with h | h
      · exact hS.2.2 q h
      · exact hL q h⟩ T' rfl X'
  exact ⟨t2, stp t2 a1, b1⟩
theorem am_cat {ad : Nat → Nat} {st : List Value} (h : (st.map fun v => v.category).sum ≤ 8) : ((st.map (am_up ad)).map fun v => v.category).sum ≤ 8 := by
  have e : ((st.map (am_up ad)).map fun v => v.category) = st.map fun v => v.category := by
    rw [List.map_map]; apply List.map_congr_left; intro v _; exact am_up_cat ad v
  rw [e]; exact h
theorem am_opt (ad : Nat → Nat) (r : Option Value) (st : List Value) : (r.map (am_up ad)).toList ++ st.map (am_up ad) = (r.toList ++ st).map (am_up ad) := by cases r <;> rfl
theorem am_callS {l : Launch} {C : am_Cfg} {x : am_X} {dep bc bs pc : Nat} {mi : am_M} {L : List (Option Value)} {st : List Value} {S : am_S} {nn : Nat} {d : am_D} {Q : Option Value → am_S → Nat → am_D → Prop} {idx k mc' ms' : Nat} {mj : am_M} {stk : List Value} {Q' : Option Value → am_S → Nat → am_D → Prop} (hok : am_ok C) (as : List Value) (hd : decode mi.2.1 pc = .ok (.invokestatic idx, 3)) (hg : am_good C mj k) (hl : am_ml C mi.1.cls idx mj) (hst : Cond.static mj.1 ∈ am_ts C) (hk : as.length = k) (hstk : as.reverse ++ st = stk) (hs : (st.map fun v => v.category).sum ≤ 8) (hM : am_Met l C x dep mc' ms' mj as S nn d Q') (hc1 : mc' ≤ bc) (hc2 : ms' ≤ bs) (kk : ∀ r S' n' d', Q' r S' n' d' → am_W l C x (dep + 1) (bc - mc') (bs - ms') mi (pc + 3) L (r.toList ++ st) S' n' d' Q) : am_W l C x (dep + 1) bc bs mi pc L stk S nn d Q := by
  intro p e s m args below meth c H locs cells slots mc ms ls hC
  obtain ⟨⟨hx, hb, hml, hr, hlk, hnm, hown, hts, hF⟩, hH, hS, hbc, hbs, hL⟩ := hC
  subst hstk
  have hG := am_goodIn hok hg
  have hR : (am_rm dep mc' ms').frames + 1 ≤ (am_rm (dep + 1) mc ms).frames ∧ 8 + (mj.2.2.1 + 11) + (am_rm dep mc' ms').locals ≤ (am_rm (dep + 1) mc ms).locals := by
    have := hg.2.2.2
    refine ⟨by show dep + 998 + 1 ≤ dep + 1 + 998; omega, ?_⟩
    show 8 + (mj.2.2.1 + 11) + 80 * dep ≤ 80 * (dep + 1)
    omega
  have hP : ∀ U : State, U.heap = H → s.WarmedH U.vm → va_Pc (as.map (am_up (am_ad x))) (fun U => am_F C x U ∧ am_H C x S nn d U U.heap) (as.map (am_up (am_ad x))).toArray U := fun U hU hW => ⟨rfl, am_F.warm hok hF hU hW hS, by rw [hU]; exact hH.moved hW.alike⟩
  have hcs : cells + mc' ≤ (am_rm (dep + 1) mc ms).cells ∧ slots + ms' ≤ (am_rm (dep + 1) mc ms).slots := ⟨by show cells + mc' ≤ mc; omega, by show slots + ms' ≤ ms; omega⟩
  refine am_call (C := C) (Q' := Q') (rest := st.map (am_up (am_ad x))) (mc := mc') (ms := ms') (a := (as.map (am_up (am_ad x))).toArray) ?_ hS (fun r S' n' d' H1 locs1 hq hH1 hS1 => ?_)
  · skip
    rcases hl with hl | ⟨host, hl⟩
    · exact va_runS (bytes := mj.2.1) (maxL := mj.2.2.1) (ret := mj.2.2.2) (As := as.map (am_up (am_ad x))) (n := k) ⟨hx, hb, hml, hown, hts⟩ hM ⟨callB_of k hts hG rfl rfl rfl (hts _ hg.2.1) (hts _ hl) hg.2.2.1 hR, hts _ hst⟩ ⟨am_blind hok, hP⟩ rfl (by rw [List.length_map]; exact hk) hL.1 (by show List.map _ (as.reverse ++ st) = _; rw [List.map_append, List.map_reverse]) (lv_room (am_cat hs)) hd hcs
    · exact va_runSN (host := host) (bytes := mj.2.1) (maxL := mj.2.2.1) (ret := mj.2.2.2) (As := as.map (am_up (am_ad x))) (n := k) ⟨hx, hb, hml, hown, hts⟩ hM ⟨va_cnB k hts hG rfl rfl rfl (hF.2.1 _ hl) (hts _ hg.2.1) hg.2.2.1 hR, ⟨hts _ hst, trivial⟩⟩ ⟨am_blind hok, hP⟩ rfl (by rw [List.length_map]; exact hk) hL.1 (by show List.map _ (as.reverse ++ st) = _; rw [List.map_append, List.map_reverse]) (lv_room (am_cat hs)) hd hcs
  · rw [am_opt]
    exact kk r S' n' d' hq p e s m args below meth c H1 locs1 (cells + mc') (slots + ms') mc ms ls ⟨⟨hx, hb, hml, hr, hlk, hnm, hown, hts, hF⟩, hH1, hS1, by omega, by omega, hL⟩
theorem am_callV {l : Launch} {C : am_Cfg} {x : am_X} {dep bc bs pc : Nat} {mi : am_M} {L : List (Option Value)} {st : List Value} {S : am_S} {nn : Nat} {d : am_D} {Q : Option Value → am_S → Nat → am_D → Prop} {idx k mc' ms' : Nat} {mj : am_M} {stk : List Value} {b : Nat} {Q' : Option Value → am_S → Nat → am_D → Prop} (hok : am_ok C) (as : List Value) (hd : decode mi.2.1 pc = .ok (.invokevirtual idx, 3)) (hg : am_good C mj k) (hl : am_ml C mi.1.cls idx mj) (hst : Cond.instanceMethod mj.1 ∈ am_ts C) (hsel : Cond.selects mj.1.cls mj.1 mj.1 ∈ am_ts C) (ci : Nat) (rc : vw_C) (hbk : (S b).1 = ci + 3) (hbn : b < nn) (hrc : (am_cl C)[ci]? = some rc) (hcn : rc.1 = mj.1.cls) (hk : as.length = k) (hstk : as.reverse ++ .ref b :: st = stk) (hs : (st.map fun v => v.category).sum ≤ 8) (hM : am_Met l C x dep mc' ms' mj (.ref b :: as) S nn d Q') (hc1 : mc' ≤ bc) (hc2 : ms' ≤ bs) (kk : ∀ r S' n' d', Q' r S' n' d' → am_W l C x (dep + 1) (bc - mc') (bs - ms') mi (pc + 3) L (r.toList ++ st) S' n' d' Q) : am_W l C x (dep + 1) bc bs mi pc L stk S nn d Q := by
  intro p e s m args below meth c H locs cells slots mc ms ls hC
  obtain ⟨⟨hx, hb, hml, hr, hlk, hnm, hown, hts, hF⟩, hH, hS, hbc, hbs, hL⟩ := hC
  subst hstk
  have hG := am_goodIn hok hg
  have hR : (am_rm dep mc' ms').frames + 1 ≤ (am_rm (dep + 1) mc ms).frames ∧ 8 + (mj.2.2.1 + 11) + (am_rm dep mc' ms').locals ≤ (am_rm (dep + 1) mc ms).locals := by
    have := hg.2.2.2
    refine ⟨by show dep + 998 + 1 ≤ dep + 1 + 998; omega, ?_⟩
    show 8 + (mj.2.2.1 + 11) + 80 * dep ≤ 80 * (dep + 1)
    omega
  have hP : ∀ U : State, U.heap = H → s.WarmedH U.vm → va_Pc ((Value.ref b :: as).map (am_up (am_ad x))) (fun U => am_F C x U ∧ am_H C x S nn d U U.heap) ((Value.ref b :: as).map (am_up (am_ad x))).toArray U := fun U hU hW => ⟨rfl, am_F.warm hok hF hU hW hS, by rw [hU]; exact hH.moved hW.alike⟩
  have hcs : cells + mc' ≤ (am_rm (dep + 1) mc ms).cells ∧ slots + ms' ≤ (am_rm (dep + 1) mc ms).slots := ⟨by show cells + mc' ≤ mc; omega, by show slots + ms' ≤ ms; omega⟩
  refine am_call (C := C) (Q' := Q') (rest := st.map (am_up (am_ad x))) (mc := mc') (ms := ms') (a := ((Value.ref b :: as).map (am_up (am_ad x))).toArray) ?_ hS (fun r S' n' d' H1 locs1 hq hH1 hS1 => ?_)
  · have hn := hH.2.2
    have hrecv : ∃ cellB : Cell, H[am_ad x b]? = some cellB ∧ cellB.vm.isStatics = false ∧ s.vm.findClass mj.1.cls = some cellB.cls := by
      obtain ⟨r', h1, -, cell, q1, q2, q3, -⟩ := (am_own_3 hbk).mp ((hH.1 b (Or.inl hbn)).2 (by omega))
      cases hrc.symm.trans h1
      refine ⟨cell, q1, by rw [q3]; rfl, ?_⟩
      rw [q2, ← hcn]
      exact (hF.1.1 ci _ hrc).2.1
    rcases hl with hl | ⟨host, hl⟩
    · exact va_runV (C := mj.1.cls) (bytes := mj.2.1) (maxL := mj.2.2.1) (ret := mj.2.2.2) (As := as.map (am_up (am_ad x))) (n := k) ⟨hx, hb, hml, hown, hts⟩ hM ⟨callB_of k hts hG rfl rfl rfl (hts _ hg.2.1) (hts _ hl) hg.2.2.1 hR, ⟨hts _ hst, hts _ hsel⟩⟩ ⟨am_blind hok, hrecv, hP⟩ rfl (by rw [List.length_map]; exact hk) hL.1 (by show List.map _ (as.reverse ++ .ref b :: st) = _; rw [List.map_append, List.map_reverse]; rfl) (lv_room (am_cat hs)) hd hcs
    · exact va_runVN (C := mj.1.cls) (host := host) (bytes := mj.2.1) (maxL := mj.2.2.1) (ret := mj.2.2.2) (As := as.map (am_up (am_ad x))) (n := k) ⟨hx, hb, hml, hown, hts⟩ hM ⟨va_cnB k hts hG rfl rfl rfl (hF.2.1 _ hl) (hts _ hg.2.1) hg.2.2.1 hR, ⟨hts _ hst, hts _ hsel⟩⟩ ⟨am_blind hok, hrecv, hP⟩ rfl (by rw [List.length_map]; exact hk) hL.1 (by show List.map _ (as.reverse ++ .ref b :: st) = _; rw [List.map_append, List.map_reverse]; rfl) (lv_room (am_cat hs)) hd hcs
  · rw [am_opt]
    exact kk r S' n' d' hq p e s m args below meth c H1 locs1 (cells + mc') (slots + ms') mc ms ls ⟨⟨hx, hb, hml, hr, hlk, hnm, hown, hts, hF⟩, hH1, hS1, by omega, by omega, hL⟩
theorem am_callI {l : Launch} {C : am_Cfg} {x : am_X} {dep bc bs pc : Nat} {mi : am_M} {L : List (Option Value)} {st : List Value} {S : am_S} {nn : Nat} {d : am_D} {Q : Option Value → am_S → Nat → am_D → Prop} {idx k mc' ms' : Nat} {mj : am_M} {stk : List Value} {b : Nat} {Q' : Option Value → am_S → Nat → am_D → Prop} (hok : am_ok C) (as : List Value) (hd : decode mi.2.1 pc = .ok (.invokespecial idx, 3)) (hg : am_good C mj k) (hl : am_ml C mi.1.cls idx mj) (hst : Cond.instanceMethod mj.1 ∈ am_ts C) (hin : mj.1.name = "<init>") (hret : mj.2.2.2 = none) (hk : as.length = k) (hstk : as.reverse ++ .ref b :: st = stk) (hs : (st.map fun v => v.category).sum ≤ 8) (hM : am_Met l C x dep mc' ms' mj (.ref b :: as) S nn d Q') (hc1 : mc' ≤ bc) (hc2 : ms' ≤ bs) (kk : ∀ r S' n' d', Q' r S' n' d' → am_W l C x (dep + 1) (bc - mc') (bs - ms') mi (pc + 3) L (r.toList ++ st) S' n' d' Q) : am_W l C x (dep + 1) bc bs mi pc L stk S nn d Q := by
  intro p e s m args below meth c H locs cells slots mc ms ls hC
  obtain ⟨⟨hx, hb, hml, hr, hlk, hnm, hown, hts, hF⟩, hH, hS, hbc, hbs, hL⟩ := hC
  subst hstk
  have hG := am_goodIn hok hg
  have hR : (am_rm dep mc' ms').frames + 1 ≤ (am_rm (dep + 1) mc ms).frames ∧ 8 + (mj.2.2.1 + 11) + (am_rm dep mc' ms').locals ≤ (am_rm (dep + 1) mc ms).locals := by
    have := hg.2.2.2
    refine ⟨by show dep + 998 + 1 ≤ dep + 1 + 998; omega, ?_⟩
    show 8 + (mj.2.2.1 + 11) + 80 * dep ≤ 80 * (dep + 1)
    omega
  have hP : ∀ U : State, U.heap = H → s.WarmedH U.vm → va_Pc ((Value.ref b :: as).map (am_up (am_ad x))) (fun U => am_F C x U ∧ am_H C x S nn d U U.heap) ((Value.ref b :: as).map (am_up (am_ad x))).toArray U := fun U hU hW => ⟨rfl, am_F.warm hok hF hU hW hS, by rw [hU]; exact hH.moved hW.alike⟩
  have hcs : cells + mc' ≤ (am_rm (dep + 1) mc ms).cells ∧ slots + ms' ≤ (am_rm (dep + 1) mc ms).slots := ⟨by show cells + mc' ≤ mc; omega, by show slots + ms' ≤ ms; omega⟩
  refine am_call (C := C) (Q' := Q') (rest := st.map (am_up (am_ad x))) (mc := mc') (ms := ms') (a := ((Value.ref b :: as).map (am_up (am_ad x))).toArray) ?_ hS (fun r S' n' d' H1 locs1 hq hH1 hS1 => ?_)
  · skip
    have hw0 : am_ws C mj = Cond.code mj.1 mj.2.1 mj.2.2.1 none :: am_ts C := by show _ :: _ = _; rw [hret]
    rcases hl with hl | ⟨host, hl⟩
    · exact va_runI (bytes := mj.2.1) (maxL := mj.2.2.1) (As := as.map (am_up (am_ad x))) (n := k) ⟨hx, hb, hml, hown, hts⟩ hM ⟨callB_of k hts hG hw0 rfl rfl (hts _ hg.2.1) (hts _ hl) hg.2.2.1 hR, ⟨hin, hts _ hst⟩⟩ ⟨am_blind hok, hP⟩ rfl (by rw [List.length_map]; exact hk) hL.1 (by show List.map _ (as.reverse ++ .ref b :: st) = _; rw [List.map_append, List.map_reverse]; rfl) (lv_room (am_cat hs)) hd hcs
    · exact va_runIN (host := host) (bytes := mj.2.1) (maxL := mj.2.2.1) (As := as.map (am_up (am_ad x))) (n := k) ⟨hx, hb, hml, hown, hts⟩ hM ⟨va_cnB k hts hG hw0 rfl rfl (hF.2.1 _ hl) (hts _ hg.2.1) hg.2.2.1 hR, ⟨hin, hts _ hst⟩⟩ ⟨am_blind hok, hP⟩ rfl (by rw [List.length_map]; exact hk) hL.1 (by show List.map _ (as.reverse ++ .ref b :: st) = _; rw [List.map_append, List.map_reverse]; rfl) (lv_room (am_cat hs)) hd hcs
  · rw [am_opt]
    exact kk r S' n' d' hq p e s m args below meth c H1 locs1 (cells + mc') (slots + ms') mc ms ls ⟨⟨hx, hb, hml, hr, hlk, hnm, hown, hts, hF⟩, hH1, hS1, by omega, by omega, hL⟩
theorem am_objInit {l : Launch} {C : am_Cfg} {x : am_X} {dep bc bs pc : Nat} {mi : am_M} {L : List (Option Value)} {st : List Value} {S : am_S} {nn : Nat} {d : am_D} {Q : Option Value → am_S → Nat → am_D → Prop} {idx a : Nat} (hd : decode mi.2.1 pc = .ok (.invokespecial idx, 3)) (hl : Cond.methodLink mi.1.cls idx Lib.objectInit ∈ am_ts C) (hi : Cond.instanceMethod Lib.objectInit ∈ am_ts C) (hc : Cond.code Lib.objectInit ⟨#[0xb1]⟩ 1 none ∈ am_ts C) (hs : (st.map fun v => v.category).sum ≤ 8) (kk : am_W l C x (dep + 1) bc bs mi (pc + 3) L st S nn d Q) : am_W l C x (dep + 1) bc bs mi pc L (.ref a :: st) S nn d Q := by
  intro p e s m args below meth c H locs cells slots mc ms ls hC
  have hx := hC.1.1
  have hb := hC.1.2.1
  have hts := hC.1.2.2.2.2.2.2.2.1
  have hsz := hC.at.1
  have hml := hC.1.2.2.1
  refine W.objInit hx hb hC.1.2.2.2.2.2.2.1 (hts _ hl) (hts _ hi) (hts _ hc) rfl (by rw [hml]; exact hsz) rfl hd (by show 1 ≤ dep + 1 + 998; omega) ?_ (kk p e s m args below meth c H locs cells slots mc ms ls hC)
  have := am_cat (ad := am_ad x) hs
  show 2 * 0 + _ + 12 ≤ 80 * (dep + 1)
  omega
theorem am_mmax {l : Launch} {C : am_Cfg} {x : am_X} {dep bc bs pc : Nat} {mi : am_M} {L : List (Option Value)} {st : List Value} {S : am_S} {nn : Nat} {d : am_D} {Q : Option Value → am_S → Nat → am_D → Prop} {idx : Nat} {u v : Int32} (hd : decode mi.2.1 pc = .ok (.invokestatic idx, 3)) (hl : Cond.methodLink mi.1.cls idx Lib.Math.max.name ∈ am_ts C) (hi : Cond.static Lib.Math.max.name ∈ am_ts C) (hini : Cond.initialized "java/lang/Math" ∈ am_ts C) (hc : Cond.code Lib.Math.max.name Lib.Math.max.code 2 (some .int) ∈ am_ts C) (hs : (st.map fun v => v.category).sum ≤ 8) (kk : am_W l C x (dep + 1) bc bs mi (pc + 3) L (.int (if u < v then v else u) :: st) S nn d Q) : am_W l C x (dep + 1) bc bs mi pc L (.int v :: .int u :: st) S nn d Q := by
  intro p e s m args below meth c H locs cells slots mc ms ls hC
  have hx := hC.1.1
  have hb := hC.1.2.1
  have hts := hC.1.2.2.2.2.2.2.2.1
  have hsz := hC.at.1
  have hml := hC.1.2.2.1
  refine va_mmax hx hb (by rw [hml]; exact hsz.symm) hC.1.2.2.2.2.2.2.1 (hts _ hl) (hts _ hi) (hts _ hini) (hts _ hc) (by show 1 ≤ dep + 1 + 998; omega) ?_ (by show cells ≤ mc; have := hC.2.2.2.1; omega) (by show slots ≤ ms; have := hC.2.2.2.2.1; omega) hd (kk p e s m args below meth c H locs cells slots mc ms ls hC)
  have := am_cat (ad := am_ad x) hs
  show _ + 13 ≤ 80 * (dep + 1)
  omega
theorem am_mmin {l : Launch} {C : am_Cfg} {x : am_X} {dep bc bs pc : Nat} {mi : am_M} {L : List (Option Value)} {st : List Value} {S : am_S} {nn : Nat} {d : am_D} {Q : Option Value → am_S → Nat → am_D → Prop} {idx : Nat} {u v : Int32} (hd : decode mi.2.1 pc = .ok (.invokestatic idx, 3)) (hl : Cond.methodLink mi.1.cls idx Lib.Math.min.name ∈ am_ts C) (hi : Cond.static Lib.Math.min.name ∈ am_ts C) (hini : Cond.initialized "java/lang/Math" ∈ am_ts C) (hc : Cond.code Lib.Math.min.name Lib.Math.min.code 2 (some .int) ∈ am_ts C) (hs : (st.map fun v => v.category).sum ≤ 8) (kk : am_W l C x (dep + 1) bc bs mi (pc + 3) L (.int (if v < u then v else u) :: st) S nn d Q) : am_W l C x (dep + 1) bc bs mi pc L (.int v :: .int u :: st) S nn d Q := by
  intro p e s m args below meth c H locs cells slots mc ms ls hC
  have hx := hC.1.1
  have hb := hC.1.2.1
  have hts := hC.1.2.2.2.2.2.2.2.1
  have hsz := hC.at.1
  have hml := hC.1.2.2.1
  refine va_mmin hx hb (by rw [hml]; exact hsz.symm) hC.1.2.2.2.2.2.2.1 (hts _ hl) (hts _ hi) (hts _ hini) (hts _ hc) (by show 1 ≤ dep + 1 + 998; omega) ?_ (by show cells ≤ mc; have := hC.2.2.2.1; omega) (by show slots ≤ ms; have := hC.2.2.2.2.1; omega) hd (kk p e s m args below meth c H locs cells slots mc ms ls hC)
  have := am_cat (ad := am_ad x) hs
  show _ + 13 ≤ 80 * (dep + 1)
  omega
