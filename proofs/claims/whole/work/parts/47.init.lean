theorem am_nw_id {S : am_S} {a : Nat} {k : Nat × Nat × (Nat → Option Nat)} (h : S a = k) : am_nw S a k = S := by
  funext b; unfold am_nw
  by_cases z : b = a
  · rw [if_pos z, z, h]
  · rw [if_neg z]
theorem am_ms_id {S : am_S} {n N M : Nat} (h : S n = (2, N, fun j => if j < N then some (n + 1 + j) else none)) (h2 : ∀ b, n < b → b ≤ n + N → S b = (0, M, fun _ => none)) : am_ms S n N M = S := by
  funext b; unfold am_ms
  by_cases z : b = n
  · rw [if_pos z, z, h]
  · rw [if_neg z]
    by_cases z2 : n < b ∧ b ≤ n + N
    · rw [if_pos z2, h2 b z2.1 z2.2]
    · rw [if_neg z2]
theorem sn_newI {l : Launch} {C : am_Cfg} {x : am_X} {dep bc bs pc : Nat} {mi : am_M} {L : List (Option Value)} {st : List Value} {S : am_S} {nn : Nat} {d : am_D} {Q : Option Value → am_S → Nat → am_D → Prop} {v : Int32} (N : Nat) (hd : decode mi.2.1 pc = .ok (.newarray .int, 2)) (hw : Cond.arrayClass .int ∈ am_ts C) (hv : v = nI N) (hN : N ≤ 100000) (hn : nn < 1000) (hS : S nn = (0, N, fun _ => none)) (kk : am_W l C x dep bc bs mi (pc + 2) L (.ref nn :: st) S (nn + 1) (am_nd d nn (fun _ => 0)) Q) : am_W l C x dep (bc + 1) (bs + N) mi pc L (.int v :: st) S nn d Q := by
  refine am_newI N hd hw hv hN hn ?_
  rw [am_nw_id hS]; exact kk
theorem sn_newC {l : Launch} {C : am_Cfg} {x : am_X} {dep bc bs pc : Nat} {mi : am_M} {L : List (Option Value)} {st : List Value} {S : am_S} {nn : Nat} {d : am_D} {Q : Option Value → am_S → Nat → am_D → Prop} {v : Int32} (N : Nat) (hd : decode mi.2.1 pc = .ok (.newarray .char, 2)) (hw : Cond.arrayClass .char ∈ am_ts C) (hv : v = nI N) (hN : N ≤ 100000) (hn : nn < 1000) (hS : S nn = (1, N, fun _ => none)) (kk : am_W l C x dep bc bs mi (pc + 2) L (.ref nn :: st) S (nn + 1) (am_nd d nn (fun _ => 0)) Q) : am_W l C x dep (bc + 1) (bs + N) mi pc L (.int v :: st) S nn d Q := by
  refine am_newC N hd hw hv hN hn ?_
  rw [am_nw_id hS]; exact kk
theorem sn_new {l : Launch} {C : am_Cfg} {x : am_X} {dep bc bs pc : Nat} {mi : am_M} {L : List (Option Value)} {st : List Value} {S : am_S} {nn : Nat} {d : am_D} {Q : Option Value → am_S → Nat → am_D → Prop} {idx : Nat} {ty0 : Nat → FieldType} (ci : Nat) (r : vw_C) (hd : decode mi.2.1 pc = .ok (.new idx, 3)) (hr : (am_cl C)[ci]? = some r) (hok : am_clok C r ty0) (hl : Cond.classLink mi.1.cls idx r.1 ∈ am_ts C) (hi : Cond.instantiable r.1 r.2.2 ∈ am_ts C) (hini : Cond.initialized r.1 ∈ am_ts C) (hdef : ∀ j, j < r.2.2 → defaultValue (ty0 j) = if am_rf C ci j = true then .null else .int 0) (hn : nn < 1000) (hS : S nn = (ci + 3, r.2.2, fun _ => none)) (kk : am_W l C x dep bc bs mi (pc + 3) L (.ref nn :: st) S (nn + 1) (am_nd d nn (fun _ => 0)) Q) : am_W l C x dep (bc + 1) (bs + r.2.2) mi pc L st S nn d Q := by
  refine am_new ci r hd hr hok hl hi hini hdef hn ?_
  rw [am_nw_id hS]; exact kk
theorem sn_multi {l : Launch} {C : am_Cfg} {x : am_X} {dep bc bs pc : Nat} {mi : am_M} {L : List (Option Value)} {st : List Value} {S : am_S} {nn : Nat} {d : am_D} {Q : Option Value → am_S → Nat → am_D → Prop} {idx : Nat} {u v : Int32} (N M : Nat) (hd : decode mi.2.1 pc = .ok (.multianewarray idx 2, 4)) (hl : Cond.classLink mi.1.cls idx ("[" ++ (FieldType.array .int).toString) ∈ am_ts C) (hw : Cond.arrayClass .int ∈ am_ts C) (hw2 : Cond.arrayOver (.array .int) ∈ am_ns C) (hu : u = nI N) (hv : v = nI M) (hN : N ≤ 500) (hM : M ≤ 100000) (hn : nn + 1 + N ≤ 1000) (hS : S nn = (2, N, fun j => if j < N then some (nn + 1 + j) else none)) (hS2 : ∀ b, nn < b → b ≤ nn + N → S b = (0, M, fun _ => none))
    (kk : am_W l C x dep bc bs mi (pc + 4) L (.ref nn :: st) S (nn + 1 + N) (am_md d nn N) Q) : am_W l C x dep (bc + (1 + N)) (bs + (N + N * M)) mi pc L (.int v :: .int u :: st) S nn d Q := by
  refine am_multi N M hd hl hw hw2 hu hv hN hM hn ?_
  rw [am_ms_id hS hS2]; exact kk
/-- the shape while the objects' references are still being set -/
def SHn (L : Nat) (f0 f13 f36 f40 : Nat → Option Nat) : am_S := fun a => if a = 0 then (3, 11, f0) else if a = 13 then (4, 8, f13) else if a = 36 then (5, 3, f36) else if a = 40 then (6, 19, f40) else SH L a
def us (f : Nat → Option Nat) (j r : Nat) : Nat → Option Nat := fun k => if k = j then some r else f k
def un : Nat → Option Nat := fun _ => none
theorem SHn_0 {L : Nat} {f0 f13 f36 f40 : Nat → Option Nat} (j r : Nat) : am_r (SHn L f0 f13 f36 f40) 0 j r = SHn L (us f0 j r) f13 f36 f40 := by
  funext b; unfold am_r
  by_cases z : b = 0
  · rw [if_pos z, z]; rfl
  · rw [if_neg z]; unfold SHn; rw [if_neg z, if_neg z]
theorem SHn_13 {L : Nat} {f0 f13 f36 f40 : Nat → Option Nat} (j r : Nat) : am_r (SHn L f0 f13 f36 f40) 13 j r = SHn L f0 (us f13 j r) f36 f40 := by
  funext b; unfold am_r
  by_cases z : b = 13
  · rw [if_pos z, z]; rfl
  · rw [if_neg z]; unfold SHn; rw [if_neg z, if_neg z]
theorem SHn_36 {L : Nat} {f0 f13 f36 f40 : Nat → Option Nat} (j r : Nat) : am_r (SHn L f0 f13 f36 f40) 36 j r = SHn L f0 f13 (us f36 j r) f40 := by
  funext b; unfold am_r
  by_cases z : b = 36
  · rw [if_pos z, z]; rfl
  · rw [if_neg z]; unfold SHn; rw [if_neg z, if_neg z]
theorem SHn_40 {L : Nat} {f0 f13 f36 f40 : Nat → Option Nat} (j r : Nat) : am_r (SHn L f0 f13 f36 f40) 40 j r = SHn L f0 f13 f36 (us f40 j r) := by
  funext b; unfold am_r
  by_cases z : b = 40
  · rw [if_pos z, z]; rfl
  · rw [if_neg z]; unfold SHn; rw [if_neg z, if_neg z]
theorem SHn_w (L : Nat) (f0 f13 f36 f40 : Nat → Option Nat) : ∀ b, 7 < b → b ≤ 7 + 5 → SHn L f0 f13 f36 f40 b = (0, 64, fun _ => none) := by
  intro b h1 h2
  have h : b = 8 ∨ b = 9 ∨ b = 10 ∨ b = 11 ∨ b = 12 := by omega
  rcases h with rfl | rfl | rfl | rfl | rfl <;> rfl
theorem SHn_c (L : Nat) (f0 f13 f36 f40 : Nat → Option Nat) : ∀ b, 16 < b → b ≤ 16 + 9 → SHn L f0 f13 f36 f40 b = (0, 64, fun _ => none) := by
  intro b h1 h2
  have h : b = 17 ∨ b = 18 ∨ b = 19 ∨ b = 20 ∨ b = 21 ∨ b = 22 ∨ b = 23 ∨ b = 24 ∨ b = 25 := by omega
  rcases h with rfl | rfl | rfl | rfl | rfl | rfl | rfl | rfl | rfl <;> rfl
theorem SHn_s (L : Nat) (f0 f13 f36 f40 : Nat → Option Nat) : ∀ b, 26 < b → b ≤ 26 + 9 → SHn L f0 f13 f36 f40 b = (0, 64, fun _ => none) := by
  intro b h1 h2
  have h : b = 27 ∨ b = 28 ∨ b = 29 ∨ b = 30 ∨ b = 31 ∨ b = 32 ∨ b = 33 ∨ b = 34 ∨ b = 35 := by omega
  rcases h with rfl | rfl | rfl | rfl | rfl | rfl | rfl | rfl | rfl <;> rfl
/-- the outer rows unchanged, all new ints 0 -/
def Zd (n : Nat) (d0 d : am_D) : Prop := (∀ a, 1000 ≤ a → d a = d0 a) ∧ ∀ a, a < n → a ≠ 7 → a ≠ 16 → a ≠ 26 → a ≠ 37 → ∀ j, d a j = 0
theorem Zd.nd {n : Nat} {d0 d : am_D} (h : Zd n d0 d) (hn : n < 1000) : Zd (n + 1) d0 (am_nd d n (fun _ => 0)) := by
  refine ⟨fun a ha => ?_, fun a ha h1 h2 h3 h4 j => ?_⟩
  · rw [am_nd_ne (by omega)]; exact h.1 a ha
  · by_cases z : a = n
    · rw [z, am_nd_self]
    · rw [am_nd_ne z]; exact h.2 a (by omega) h1 h2 h3 h4 j
theorem Zd.md {n N : Nat} {d0 d : am_D} (h : Zd n d0 d) (hn : n = 7 ∨ n = 16 ∨ n = 26) (hN : n + 1 + N ≤ 1000) : Zd (n + 1 + N) d0 (am_md d n N) := by
  refine ⟨fun a ha => ?_, fun a ha h1 h2 h3 h4 j => ?_⟩
  · unfold am_md; rw [if_neg (by omega)]; exact h.1 a ha
  · unfold am_md
    by_cases z : n < a ∧ a ≤ n + N
    · rw [if_pos z]
    · rw [if_neg z]; exact h.2 a (by omega) h1 h2 h3 h4 j
theorem Zd.u {n a k : Nat} {d0 d : am_D} (h : Zd n d0 d) (ha : a < 1000) : Zd n d0 (am_u d a k 0) := by
  refine ⟨fun b hb => ?_, fun b hb h1 h2 h3 h4 j => ?_⟩
  · rw [am_u_ne b (by omega)]; exact h.1 b hb
  · by_cases z : b = a ∧ j = k
    · rw [z.1, z.2]; exact am_u_i
    · rw [am_u_o z]; exact h.2 b hb h1 h2 h3 h4 j
theorem Zd.t37 {n k : Nat} {F : Nat → Int32} {d0 d : am_D} (h : Zd n d0 d) : Zd n d0 (am_tb d 37 k F) := by
  refine ⟨fun b hb => ?_, fun b hb h1 h2 h3 h4 j => ?_⟩
  · rw [am_tb_ne (by omega)]; exact h.1 b hb
  · rw [am_tb_ne h4]; exact h.2 b hb h1 h2 h3 h4 j
set_option maxRecDepth 100000 in
set_option maxHeartbeats 4000000 in
theorem c_B_init {l : Launch} {x : am_X} {e L : Nat} {d0 d : am_D} {f0 f36 f40 : Nat → Option Nat} (hz : Zd 14 d0 d) : am_Met l K0 x (e + 1) 22 1274 m_B_init [.ref 13] (SHn L f0 un f36 f40) 14 d (fun r S n d' => r = none ∧ S = SHn L f0 (us (us (us (us un 0 14) 5 15) 6 16) 7 26) f36 f40 ∧ n = 36 ∧ Zd 36 d0 d') := by
  refine am_enter (by decide) (by simp [Value.category]) (Nat.le_of_ble_eq_true rfl) ?_
  refine am_go cd_B_init hc_B_init 0 1 (pc' := 1) (L' := [some (.ref 13)]) (st' := [.ref 13]) rfl ?_
  refine am_objInit (am_at hc_B_init 1 rfl) (tw 23 rfl rfl) (tw 14 rfl rfl) (tw 15 rfl rfl) (Nat.le_of_ble_eq_true rfl) ?_
  refine am_go cd_B_init hc_B_init 2 2 (pc' := 7) (L' := [some (.ref 13)]) (st' := [.int 40, .ref 13]) rfl ?_
  refine sn_newC (bc := 21) (bs := 1234) 40 (am_at hc_B_init 4 rfl) (tw 53 rfl rfl) rfl (Nat.le_of_ble_eq_true rfl) (Nat.le_of_ble_eq_true rfl) rfl ?_
  have hz1 := hz.nd (Nat.le_of_ble_eq_true rfl)
  generalize am_nd d 14 (fun _ => 0) = d1 at hz1 ⊢
  show am_W _ K0 _ (e + 1) 21 1234 m_B_init 9 [some (.ref 13)] [.ref 14, .ref 13] (SHn L f0 un f36 f40) 15 d1 _
  refine am_putR 1 0 k_r1 (am_at hc_B_init 5 rfl) rfl (Nat.le_of_ble_eq_true rfl) rfl (Nat.le_of_ble_eq_true rfl) k_ok1 (tw 25 rfl rfl) rfl rfl rfl rfl rfl rfl ?_
  rw [SHn_13 0 14]
  refine am_go cd_B_init hc_B_init 6 2 (pc' := 14) (L' := [some (.ref 13)]) (st' := [.int 0, .ref 13]) rfl ?_
  refine am_putI 1 1 k_r1 (am_at hc_B_init 8 rfl) rfl (Nat.le_of_ble_eq_true rfl) rfl (by decide) k_ok1 (tw 26 rfl rfl) rfl rfl rfl rfl ?_
  have hz2 := hz1.u (a := 13) (k := 1) (Nat.le_of_ble_eq_true rfl)
  generalize am_u d1 13 1 0 = d2 at hz2 ⊢
  refine am_go cd_B_init hc_B_init 9 2 (pc' := 19) (L' := [some (.ref 13)]) (st' := [.int 0, .ref 13]) rfl ?_
  refine am_putI 1 2 k_r1 (am_at hc_B_init 11 rfl) rfl (Nat.le_of_ble_eq_true rfl) rfl (by decide) k_ok1 (tw 27 rfl rfl) rfl rfl rfl rfl ?_
  have hz3 := hz2.u (a := 13) (k := 2) (Nat.le_of_ble_eq_true rfl)
  generalize am_u d2 13 2 0 = d3 at hz3 ⊢
  refine am_go cd_B_init hc_B_init 12 2 (pc' := 24) (L' := [some (.ref 13)]) (st' := [.int 0, .ref 13]) rfl ?_
  refine am_putI 1 3 k_r1 (am_at hc_B_init 14 rfl) rfl (Nat.le_of_ble_eq_true rfl) rfl (by decide) k_ok1 (tw 28 rfl rfl) rfl rfl rfl rfl ?_
  have hz4 := hz3.u (a := 13) (k := 3) (Nat.le_of_ble_eq_true rfl)
  generalize am_u d3 13 3 0 = d4 at hz4 ⊢
  refine am_go cd_B_init hc_B_init 15 2 (pc' := 29) (L' := [some (.ref 13)]) (st' := [.int 0, .ref 13]) rfl ?_
  refine am_putI 1 4 k_r1 (am_at hc_B_init 17 rfl) rfl (Nat.le_of_ble_eq_true rfl) rfl (by decide) k_ok1 (tw 29 rfl rfl) rfl rfl rfl rfl ?_
  have hz5 := hz4.u (a := 13) (k := 4) (Nat.le_of_ble_eq_true rfl)
  generalize am_u d4 13 4 0 = d5 at hz5 ⊢
  refine am_go cd_B_init hc_B_init 18 2 (pc' := 35) (L' := [some (.ref 13)]) (st' := [.int 64, .ref 13]) rfl ?_
  refine sn_newI (bc := 20) (bs := 1170) 64 (am_at hc_B_init 20 rfl) (tw 52 rfl rfl) rfl (Nat.le_of_ble_eq_true rfl) (Nat.le_of_ble_eq_true rfl) rfl ?_
  have hz6 := hz5.nd (Nat.le_of_ble_eq_true rfl)
  generalize am_nd d5 15 (fun _ => 0) = d6 at hz6 ⊢
  show am_W _ K0 _ (e + 1) 20 1170 m_B_init 37 [some (.ref 13)] [.ref 15, .ref 13] (SHn L f0 (us un 0 14) f36 f40) 16 d6 _
  refine am_putR 1 5 k_r1 (am_at hc_B_init 21 rfl) rfl (Nat.le_of_ble_eq_true rfl) rfl (Nat.le_of_ble_eq_true rfl) k_ok1 (tw 31 rfl rfl) rfl rfl rfl rfl rfl rfl ?_
  rw [SHn_13 5 15]
  refine am_go cd_B_init hc_B_init 22 3 (pc' := 45) (L' := [some (.ref 13)]) (st' := [.int 64, .int 9, .ref 13]) rfl ?_
  refine sn_multi (bc := 10) (bs := 585) 9 64 (am_at hc_B_init 25 rfl) (tw 24 rfl rfl) (tw 52 rfl rfl) (tn 17 rfl rfl) rfl rfl (Nat.le_of_ble_eq_true rfl) (Nat.le_of_ble_eq_true rfl) (Nat.le_of_ble_eq_true rfl) rfl (SHn_c _ _ _ _ _) ?_
  have hz7 := hz6.md (N := 9) (by decide) (Nat.le_of_ble_eq_true rfl)
  generalize am_md d6 16 9 = d7 at hz7 ⊢
  show am_W _ K0 _ (e + 1) 10 585 m_B_init 49 [some (.ref 13)] [.ref 16, .ref 13] (SHn L f0 (us (us un 0 14) 5 15) f36 f40) 26 d7 _
  refine am_putR 1 6 k_r1 (am_at hc_B_init 26 rfl) rfl (Nat.le_of_ble_eq_true rfl) rfl (Nat.le_of_ble_eq_true rfl) k_ok1 (tw 33 rfl rfl) rfl rfl rfl rfl rfl rfl ?_
  rw [SHn_13 6 16]
  refine am_go cd_B_init hc_B_init 27 3 (pc' := 57) (L' := [some (.ref 13)]) (st' := [.int 64, .int 9, .ref 13]) rfl ?_
  refine sn_multi (bc := 0) (bs := 0) 9 64 (am_at hc_B_init 30 rfl) (tw 24 rfl rfl) (tw 52 rfl rfl) (tn 17 rfl rfl) rfl rfl (Nat.le_of_ble_eq_true rfl) (Nat.le_of_ble_eq_true rfl) (Nat.le_of_ble_eq_true rfl) rfl (SHn_s _ _ _ _ _) ?_
  have hz8 := hz7.md (N := 9) (by decide) (Nat.le_of_ble_eq_true rfl)
  generalize am_md d7 26 9 = d8 at hz8 ⊢
  show am_W _ K0 _ (e + 1) 0 0 m_B_init 61 [some (.ref 13)] [.ref 26, .ref 13] (SHn L f0 (us (us (us un 0 14) 5 15) 6 16) f36 f40) 36 d8 _
  refine am_putR 1 7 k_r1 (am_at hc_B_init 31 rfl) rfl (Nat.le_of_ble_eq_true rfl) rfl (Nat.le_of_ble_eq_true rfl) k_ok1 (tw 34 rfl rfl) rfl rfl rfl rfl rfl rfl ?_
  rw [SHn_13 7 26]
  exact am_vret (am_at hc_B_init 32 rfl) rfl ⟨rfl, rfl, rfl, hz8⟩
set_option maxRecDepth 100000 in
set_option maxHeartbeats 4000000 in
theorem c_S_init {l : Launch} {x : am_X} {e L : Nat} {d0 d : am_D} {f0 f13 f40 : Nat → Option Nat} (hz : Zd 37 d0 d) (hrk : ∀ j, j < 6 → d0 1001 j = zI (rks j)) : am_Met l K0 x (e + 1) 3 192 m_S_init [.ref 36] (SHn L f0 f13 un f40) 37 d (fun r S n d' => r = none ∧ S = SHn L f0 f13 (us (us (us un 0 37) 1 38) 2 39) f40 ∧ n = 40 ∧ Zd 40 d0 d' ∧ ∀ s, s < 64 → d' 37 s = zI (rk s)) := by
  refine am_enter (by decide) (by simp [Value.category]) (Nat.le_of_ble_eq_true rfl) ?_
  refine am_go cd_S_init hc_S_init 0 1 (pc' := 1) (L' := [some (.ref 36), none]) (st' := [.ref 36]) rfl ?_
  refine am_objInit (am_at hc_S_init 1 rfl) (tw 59 rfl rfl) (tw 14 rfl rfl) (tw 15 rfl rfl) (Nat.le_of_ble_eq_true rfl) ?_
  refine am_go cd_S_init hc_S_init 2 2 (pc' := 7) (L' := [some (.ref 36), none]) (st' := [.int 64, .ref 36]) rfl ?_
  refine sn_newI (bc := 2) (bs := 128) 64 (am_at hc_S_init 4 rfl) (tw 52 rfl rfl) rfl (Nat.le_of_ble_eq_true rfl) (Nat.le_of_ble_eq_true rfl) rfl ?_
  have hz1 := hz.nd (Nat.le_of_ble_eq_true rfl)
  generalize am_nd d 37 (fun _ => 0) = d1 at hz1 ⊢
  show am_W _ K0 _ (e + 1) 2 128 m_S_init 9 [some (.ref 36), none] [.ref 37, .ref 36] (SHn L f0 f13 un f40) 38 d1 _
  refine am_putR 2 0 k_r2 (am_at hc_S_init 5 rfl) rfl (Nat.le_of_ble_eq_true rfl) rfl (Nat.le_of_ble_eq_true rfl) k_ok2 (tw 65 rfl rfl) rfl rfl rfl rfl rfl rfl ?_
  rw [SHn_36 0 37]
  refine am_go cd_S_init hc_S_init 6 2 (pc' := 15) (L' := [some (.ref 36), none]) (st' := [.int 64, .ref 36]) rfl ?_
  refine sn_newI (bc := 1) (bs := 64) 64 (am_at hc_S_init 8 rfl) (tw 52 rfl rfl) rfl (Nat.le_of_ble_eq_true rfl) (Nat.le_of_ble_eq_true rfl) rfl ?_
  have hz2 := hz1.nd (Nat.le_of_ble_eq_true rfl)
  generalize am_nd d1 38 (fun _ => 0) = d2 at hz2 ⊢
  show am_W _ K0 _ (e + 1) 1 64 m_S_init 17 [some (.ref 36), none] [.ref 38, .ref 36] (SHn L f0 f13 (us un 0 37) f40) 39 d2 _
  refine am_putR 2 1 k_r2 (am_at hc_S_init 9 rfl) rfl (Nat.le_of_ble_eq_true rfl) rfl (Nat.le_of_ble_eq_true rfl) k_ok2 (tw 66 rfl rfl) rfl rfl rfl rfl rfl rfl ?_
  rw [SHn_36 1 38]
  refine am_go cd_S_init hc_S_init 10 2 (pc' := 23) (L' := [some (.ref 36), none]) (st' := [.int 64, .ref 36]) rfl ?_
  refine sn_newI (bc := 0) (bs := 0) 64 (am_at hc_S_init 12 rfl) (tw 52 rfl rfl) rfl (Nat.le_of_ble_eq_true rfl) (Nat.le_of_ble_eq_true rfl) rfl ?_
  have hz3 := hz2.nd (Nat.le_of_ble_eq_true rfl)
  generalize am_nd d2 39 (fun _ => 0) = d3 at hz3 ⊢
  show am_W _ K0 _ (e + 1) 0 0 m_S_init 25 [some (.ref 36), none] [.ref 39, .ref 36] (SHn L f0 f13 (us (us un 0 37) 1 38) f40) 40 d3 _
  refine am_putR 2 2 k_r2 (am_at hc_S_init 13 rfl) rfl (Nat.le_of_ble_eq_true rfl) rfl (Nat.le_of_ble_eq_true rfl) k_ok2 (tw 67 rfl rfl) rfl rfl rfl rfl rfl rfl ?_
  rw [SHn_36 2 39]
  refine am_go cd_S_init hc_S_init 14 2 (pc' := 30) (L' := [some (.ref 36), some (.int 0)]) (st' := []) rfl ?_
  have loop : ∀ k s, s + k = 64 → am_W l K0 x (e + 1) 0 0 m_S_init 30 [some (.ref 36), some (.int (nI s))] [] (SHn L f0 f13 (us (us (us un 0 37) 1 38) 2 39) f40) 40 (am_tb d3 37 s (fun s => zI (rk s))) (fun r S n d' => r = none ∧ S = SHn L f0 f13 (us (us (us un 0 37) 1 38) 2 39) f40 ∧ n = 40 ∧ Zd 40 d0 d' ∧ ∀ s, s < 64 → d' 37 s = zI (rk s)) := by
    intro k
    induction k with
    | zero =>
      intro s hs
      refine am_go cd_S_init hc_S_init 16 2 (pc' := 33) (L' := [some (.ref 36), some (.int (nI s))]) (st' := [.int 64, .int (nI s)]) rfl ?_
      refine am_icmp_ge 55 (am_at hc_S_init 18 rfl) (by decide) (fun q1 => ?_) (fun q1 => absurd (nI_le (a := 64) (b := s) (by omega) (by omega)) q1)
      exact am_vret (am_at hc_S_init 28 rfl) rfl ⟨rfl, rfl, rfl, hz3.t37, fun j hj => am_tb_lt (by omega)⟩
    | succ k ih =>
      intro s hs
      refine am_go cd_S_init hc_S_init 16 2 (pc' := 33) (L' := [some (.ref 36), some (.int (nI s))]) (st' := [.int 64, .int (nI s)]) rfl ?_
      refine am_icmp_ge 55 (am_at hc_S_init 18 rfl) (by decide) (fun q1 => absurd q1 (nI_ge (a := s) (b := 64) (by omega) (by omega))) (fun q1 => ?_)
      refine am_go cd_S_init hc_S_init 19 1 (pc' := 37) (L' := [some (.ref 36), some (.int (nI s))]) (st' := [.ref 36]) rfl ?_
      refine am_getf 2 0 k_r2 (am_at hc_S_init 20 rfl) rfl (Nat.le_of_ble_eq_true rfl) rfl (by decide) k_ok2 (Or.inl (tw 65 rfl rfl)) rfl ?_
      refine am_go cd_S_init hc_S_init 21 1 (pc' := 41) (L' := [some (.ref 36), some (.int (nI s))]) (st' := [.int (nI s), .ref 37]) rfl ?_
      refine am_gets ("BundleAuction$Sharing", "ITEM_RANK", "[I", 1001) (am_at hc_S_init 22 rfl) List.mem_cons_self (tw 60 rfl rfl) ?_
      refine am_go cd_S_init hc_S_init 23 1 (pc' := 45) (L' := [some (.ref 36), some (.int (nI s))]) (st' := [.int (nI s), .ref 1001, .int (nI s), .ref 37]) rfl ?_
      have hf : ∀ j, j < 6 → am_tb d3 37 s (fun s => zI (rk s)) 1001 j = zI (rks j) := fun j hj => by rw [am_tb_ne (by decide), hz3.1 1001 (by decide)]; exact hrk j hj
      refine am_callS (st := [.int (nI s), .ref 37]) k_ok [.ref 1001, .int (nI s)] (am_at hc_S_init 24 rfl) g_S_sumOver (Or.inl (tw 62 rfl rfl)) (tw 63 rfl rfl) rfl rfl (Nat.le_of_ble_eq_true rfl) (c_S_sumOver 1001 s rks (by omega) rfl (Or.inr (by decide)) rfl hf) (Nat.le_refl _) (Nat.le_refl _) ?_
      rintro _ _ _ _ ⟨rfl, rfl, rfl, rfl⟩
      show am_W _ K0 _ (e + 1) 0 0 m_S_init 48 [some (.ref 36), some (.int (nI s))] [.int (zI (rk s)), .int (nI s), .ref 37] _ 40 _ _
      refine am_iastore (s) (am_at hc_S_init 25 rfl) rfl (Nat.le_of_ble_eq_true rfl) rfl (by show s < 64; omega) (Nat.le_of_ble_eq_true rfl) ?_
      rw [am_tb_s d3 37 s (fun s => zI (rk s))]
      refine am_go cd_S_init hc_S_init 26 2 (pc' := 30) (L' := [some (.ref 36), some (.int (nI s + 1))]) (st' := []) rfl ?_
      rw [nI_1]
      exact ih (s + 1) (by omega)
  have h0 := loop 64 0 rfl
  rw [am_tb_0] at h0
  exact h0
set_option maxRecDepth 100000 in
set_option maxHeartbeats 4000000 in
theorem c_A_init {l : Launch} {x : am_X} {e L : Nat} {d0 d : am_D} {f40 : Nat → Option Nat} (hz : Zd 1 d0 d) (hrk : ∀ j, j < 6 → d0 1001 j = zI (rks j)) : am_Met l K0 x (e + 2) 39 1834 m_A_init [.ref 0] (SHn L un un un f40) 1 d (fun r S n d' => r = none ∧ S = SHn L (us (us (us (us (us (us (us (us (us un 0 1) 1 2) 2 3) 3 4) 4 5) 5 6) 6 7) 7 13) 8 36) (us (us (us (us un 0 14) 5 15) 6 16) 7 26) (us (us (us un 0 37) 1 38) 2 39) f40 ∧ n = 40 ∧ Zd 40 d0 d' ∧ ∀ s, s < 64 → d' 37 s = zI (rk s)) := by
  refine am_enter (by decide) (by simp [Value.category]) (Nat.le_of_ble_eq_true rfl) ?_
  refine am_go cd_A_init hc_A_init 0 1 (pc' := 1) (L' := [some (.ref 0)]) (st' := [.ref 0]) rfl ?_
  refine am_objInit (am_at hc_A_init 1 rfl) (tw 13 rfl rfl) (tw 14 rfl rfl) (tw 15 rfl rfl) (Nat.le_of_ble_eq_true rfl) ?_
  refine am_go cd_A_init hc_A_init 2 2 (pc' := 6) (L' := [some (.ref 0)]) (st' := [.int 5, .ref 0]) rfl ?_
  refine sn_newI (bc := 38) (bs := 1829) 5 (am_at hc_A_init 4 rfl) (tw 52 rfl rfl) rfl (Nat.le_of_ble_eq_true rfl) (Nat.le_of_ble_eq_true rfl) rfl ?_
  have hz1 := hz.nd (Nat.le_of_ble_eq_true rfl)
  generalize am_nd d 1 (fun _ => 0) = d1 at hz1 ⊢
  show am_W _ K0 _ (e + 2) 38 1829 m_A_init 8 [some (.ref 0)] [.ref 1, .ref 0] (SHn L un un un f40) 2 d1 _
  refine am_putR 0 0 k_r0 (am_at hc_A_init 5 rfl) rfl (Nat.le_of_ble_eq_true rfl) rfl (Nat.le_of_ble_eq_true rfl) k_ok0 (tw 75 rfl rfl) rfl rfl rfl rfl rfl rfl ?_
  rw [SHn_0 0 1]
  refine am_go cd_A_init hc_A_init 6 2 (pc' := 13) (L' := [some (.ref 0)]) (st' := [.int 5, .ref 0]) rfl ?_
  refine sn_newI (bc := 37) (bs := 1824) 5 (am_at hc_A_init 8 rfl) (tw 52 rfl rfl) rfl (Nat.le_of_ble_eq_true rfl) (Nat.le_of_ble_eq_true rfl) rfl ?_
  have hz2 := hz1.nd (Nat.le_of_ble_eq_true rfl)
  generalize am_nd d1 2 (fun _ => 0) = d2 at hz2 ⊢
  show am_W _ K0 _ (e + 2) 37 1824 m_A_init 15 [some (.ref 0)] [.ref 2, .ref 0] (SHn L (us un 0 1) un un f40) 3 d2 _
  refine am_putR 0 1 k_r0 (am_at hc_A_init 9 rfl) rfl (Nat.le_of_ble_eq_true rfl) rfl (Nat.le_of_ble_eq_true rfl) k_ok0 (tw 76 rfl rfl) rfl rfl rfl rfl rfl rfl ?_
  rw [SHn_0 1 2]
  refine am_go cd_A_init hc_A_init 10 2 (pc' := 21) (L' := [some (.ref 0)]) (st' := [.int 6, .ref 0]) rfl ?_
  refine sn_newI (bc := 36) (bs := 1818) 6 (am_at hc_A_init 12 rfl) (tw 52 rfl rfl) rfl (Nat.le_of_ble_eq_true rfl) (Nat.le_of_ble_eq_true rfl) rfl ?_
  have hz3 := hz2.nd (Nat.le_of_ble_eq_true rfl)
  generalize am_nd d2 3 (fun _ => 0) = d3 at hz3 ⊢
  show am_W _ K0 _ (e + 2) 36 1818 m_A_init 23 [some (.ref 0)] [.ref 3, .ref 0] (SHn L (us (us un 0 1) 1 2) un un f40) 4 d3 _
  refine am_putR 0 2 k_r0 (am_at hc_A_init 13 rfl) rfl (Nat.le_of_ble_eq_true rfl) rfl (Nat.le_of_ble_eq_true rfl) k_ok0 (tw 77 rfl rfl) rfl rfl rfl rfl rfl rfl ?_
  rw [SHn_0 2 3]
  refine am_go cd_A_init hc_A_init 14 2 (pc' := 29) (L' := [some (.ref 0)]) (st' := [.int 6, .ref 0]) rfl ?_
  refine sn_newI (bc := 35) (bs := 1812) 6 (am_at hc_A_init 16 rfl) (tw 52 rfl rfl) rfl (Nat.le_of_ble_eq_true rfl) (Nat.le_of_ble_eq_true rfl) rfl ?_
  have hz4 := hz3.nd (Nat.le_of_ble_eq_true rfl)
  generalize am_nd d3 4 (fun _ => 0) = d4 at hz4 ⊢
  show am_W _ K0 _ (e + 2) 35 1812 m_A_init 31 [some (.ref 0)] [.ref 4, .ref 0] (SHn L (us (us (us un 0 1) 1 2) 2 3) un un f40) 5 d4 _
  refine am_putR 0 3 k_r0 (am_at hc_A_init 17 rfl) rfl (Nat.le_of_ble_eq_true rfl) rfl (Nat.le_of_ble_eq_true rfl) k_ok0 (tw 78 rfl rfl) rfl rfl rfl rfl rfl rfl ?_
  rw [SHn_0 3 4]
  refine am_go cd_A_init hc_A_init 18 2 (pc' := 36) (L' := [some (.ref 0)]) (st' := [.int 5, .ref 0]) rfl ?_
  refine sn_newI (bc := 34) (bs := 1807) 5 (am_at hc_A_init 20 rfl) (tw 52 rfl rfl) rfl (Nat.le_of_ble_eq_true rfl) (Nat.le_of_ble_eq_true rfl) rfl ?_
  have hz5 := hz4.nd (Nat.le_of_ble_eq_true rfl)
  generalize am_nd d4 5 (fun _ => 0) = d5 at hz5 ⊢
  show am_W _ K0 _ (e + 2) 34 1807 m_A_init 38 [some (.ref 0)] [.ref 5, .ref 0] (SHn L (us (us (us (us un 0 1) 1 2) 2 3) 3 4) un un f40) 6 d5 _
  refine am_putR 0 4 k_r0 (am_at hc_A_init 21 rfl) rfl (Nat.le_of_ble_eq_true rfl) rfl (Nat.le_of_ble_eq_true rfl) k_ok0 (tw 79 rfl rfl) rfl rfl rfl rfl rfl rfl ?_
  rw [SHn_0 4 5]
  refine am_go cd_A_init hc_A_init 22 2 (pc' := 43) (L' := [some (.ref 0)]) (st' := [.int 5, .ref 0]) rfl ?_
  refine sn_newI (bc := 33) (bs := 1802) 5 (am_at hc_A_init 24 rfl) (tw 52 rfl rfl) rfl (Nat.le_of_ble_eq_true rfl) (Nat.le_of_ble_eq_true rfl) rfl ?_
  have hz6 := hz5.nd (Nat.le_of_ble_eq_true rfl)
  generalize am_nd d5 6 (fun _ => 0) = d6 at hz6 ⊢
  show am_W _ K0 _ (e + 2) 33 1802 m_A_init 45 [some (.ref 0)] [.ref 6, .ref 0] (SHn L (us (us (us (us (us un 0 1) 1 2) 2 3) 3 4) 4 5) un un f40) 7 d6 _
  refine am_putR 0 5 k_r0 (am_at hc_A_init 25 rfl) rfl (Nat.le_of_ble_eq_true rfl) rfl (Nat.le_of_ble_eq_true rfl) k_ok0 (tw 80 rfl rfl) rfl rfl rfl rfl rfl rfl ?_
  rw [SHn_0 5 6]
  refine am_go cd_A_init hc_A_init 26 3 (pc' := 52) (L' := [some (.ref 0)]) (st' := [.int 64, .int 5, .ref 0]) rfl ?_
  refine sn_multi (bc := 27) (bs := 1477) 5 64 (am_at hc_A_init 29 rfl) (tw 16 rfl rfl) (tw 52 rfl rfl) (tn 17 rfl rfl) rfl rfl (Nat.le_of_ble_eq_true rfl) (Nat.le_of_ble_eq_true rfl) (Nat.le_of_ble_eq_true rfl) rfl (SHn_w _ _ _ _ _) ?_
  have hz7 := hz6.md (N := 5) (by decide) (Nat.le_of_ble_eq_true rfl)
  generalize am_md d6 7 5 = d7 at hz7 ⊢
  show am_W _ K0 _ (e + 2) 27 1477 m_A_init 56 [some (.ref 0)] [.ref 7, .ref 0] (SHn L (us (us (us (us (us (us un 0 1) 1 2) 2 3) 3 4) 4 5) 5 6) un un f40) 13 d7 _
  refine am_putR 0 6 k_r0 (am_at hc_A_init 30 rfl) rfl (Nat.le_of_ble_eq_true rfl) rfl (Nat.le_of_ble_eq_true rfl) k_ok0 (tw 81 rfl rfl) rfl rfl rfl rfl rfl rfl ?_
  rw [SHn_0 6 7]
  refine am_go cd_A_init hc_A_init 31 1 (pc' := 60) (L' := [some (.ref 0)]) (st' := [.ref 0]) rfl ?_
  refine sn_new (bc := 26) (bs := 1469) 1 k_r1 (am_at hc_A_init 32 rfl) rfl k_ok1 (tw 18 rfl rfl) (tw 19 rfl rfl) (tw 2 rfl rfl) (by decide +kernel) (Nat.le_of_ble_eq_true rfl) rfl ?_
  have hz8 := hz7.nd (Nat.le_of_ble_eq_true rfl)
  generalize am_nd d7 13 (fun _ => 0) = d8 at hz8 ⊢
  show am_W _ K0 _ (e + 2) 26 1469 m_A_init 63 [some (.ref 0)] [.ref 13, .ref 0] (SHn L (us (us (us (us (us (us (us un 0 1) 1 2) 2 3) 3 4) 4 5) 5 6) 6 7) un un f40) 14 d8 _
  refine am_go cd_A_init hc_A_init 33 1 (pc' := 64) (L' := [some (.ref 0)]) (st' := [.ref 13, .ref 13, .ref 0]) rfl ?_
  refine am_callI (st := [.ref 13, .ref 0]) k_ok [] (am_at hc_A_init 34 rfl) g_B_init (Or.inl (tw 20 rfl rfl)) (tw 21 rfl rfl) rfl rfl rfl rfl (Nat.le_of_ble_eq_true rfl) (c_B_init hz8) (Nat.le_of_ble_eq_true rfl) (Nat.le_of_ble_eq_true rfl) ?_
  rintro _ _ _ db ⟨rfl, rfl, rfl, hzb⟩
  show am_W _ K0 _ (e + 2) 4 195 m_A_init 67 [some (.ref 0)] [.ref 13, .ref 0] (SHn L (us (us (us (us (us (us (us un 0 1) 1 2) 2 3) 3 4) 4 5) 5 6) 6 7) (us (us (us (us un 0 14) 5 15) 6 16) 7 26) un f40) 36 db _
  refine am_putR 0 7 k_r0 (am_at hc_A_init 35 rfl) rfl (Nat.le_of_ble_eq_true rfl) rfl (Nat.le_of_ble_eq_true rfl) k_ok0 (tw 82 rfl rfl) rfl rfl rfl rfl rfl rfl ?_
  rw [SHn_0 7 13]
  refine am_go cd_A_init hc_A_init 36 1 (pc' := 71) (L' := [some (.ref 0)]) (st' := [.ref 0]) rfl ?_
  refine sn_new (bc := 3) (bs := 192) 2 k_r2 (am_at hc_A_init 37 rfl) rfl k_ok2 (tw 54 rfl rfl) (tw 55 rfl rfl) (tw 3 rfl rfl) (by decide +kernel) (Nat.le_of_ble_eq_true rfl) rfl ?_
  have hz9 := hzb.nd (Nat.le_of_ble_eq_true rfl)
  generalize am_nd db 36 (fun _ => 0) = d9 at hz9 ⊢
  show am_W _ K0 _ (e + 2) 3 192 m_A_init 74 [some (.ref 0)] [.ref 36, .ref 0] (SHn L (us (us (us (us (us (us (us (us un 0 1) 1 2) 2 3) 3 4) 4 5) 5 6) 6 7) 7 13) (us (us (us (us un 0 14) 5 15) 6 16) 7 26) un f40) 37 d9 _
  refine am_go cd_A_init hc_A_init 38 1 (pc' := 75) (L' := [some (.ref 0)]) (st' := [.ref 36, .ref 36, .ref 0]) rfl ?_
  refine am_callI (st := [.ref 36, .ref 0]) k_ok [] (am_at hc_A_init 39 rfl) g_S_init (Or.inl (tw 56 rfl rfl)) (tw 57 rfl rfl) rfl rfl rfl rfl (Nat.le_of_ble_eq_true rfl) (c_S_init hz9 hrk) (Nat.le_of_ble_eq_true rfl) (Nat.le_of_ble_eq_true rfl) ?_
  rintro _ _ _ dc ⟨rfl, rfl, rfl, hzc, hr37⟩
  show am_W _ K0 _ (e + 2) 0 0 m_A_init 78 [some (.ref 0)] [.ref 36, .ref 0] (SHn L (us (us (us (us (us (us (us (us un 0 1) 1 2) 2 3) 3 4) 4 5) 5 6) 6 7) 7 13) (us (us (us (us un 0 14) 5 15) 6 16) 7 26) (us (us (us un 0 37) 1 38) 2 39) f40) 40 dc _
  refine am_putR 0 8 k_r0 (am_at hc_A_init 40 rfl) rfl (Nat.le_of_ble_eq_true rfl) rfl (Nat.le_of_ble_eq_true rfl) k_ok0 (tw 83 rfl rfl) rfl rfl rfl rfl rfl rfl ?_
  rw [SHn_0 8 36]
  have g37 : ∀ (d' : am_D), d' 37 = dc 37 → ∀ s, s < 64 → d' 37 s = zI (rk s) := fun d' z s hs => by rw [z]; exact hr37 s hs
  refine am_go cd_A_init hc_A_init 41 2 (pc' := 83) (L' := [some (.ref 0)]) (st' := [.int 0, .ref 0]) rfl ?_
  refine am_putI 0 9 k_r0 (am_at hc_A_init 43 rfl) rfl (Nat.le_of_ble_eq_true rfl) rfl (by decide) k_ok0 (tw 84 rfl rfl) rfl rfl rfl rfl ?_
  refine am_go cd_A_init hc_A_init 44 2 (pc' := 88) (L' := [some (.ref 0)]) (st' := [.int 0, .ref 0]) rfl ?_
  refine am_putI 0 10 k_r0 (am_at hc_A_init 46 rfl) rfl (Nat.le_of_ble_eq_true rfl) rfl (by decide) k_ok0 (tw 85 rfl rfl) rfl rfl rfl rfl ?_
  exact am_vret (am_at hc_A_init 47 rfl) rfl ⟨rfl, rfl, rfl, (hzc.u (by decide)).u (by decide), g37 _ (by rw [am_u_ne 37 (by decide), am_u_ne 37 (by decide)])⟩
set_option maxRecDepth 100000 in
set_option maxHeartbeats 4000000 in
theorem c_M_init {l : Launch} {x : am_X} {e L : Nat} {d0 d : am_D} {f0 f13 f36 : Nat → Option Nat} (hz : Zd 41 d0 d) : am_Met l K0 x (e + 1) 12 1333 m_M_init [.ref 40] (SHn L f0 f13 f36 un) 41 d (fun r S n d' => r = none ∧ S = SHn L f0 f13 f36 (us (us (us (us (us (us (us (us (us (us (us (us un 1 41) 2 42) 4 43) 6 44) 7 45) 8 46) 9 47) 11 48) 12 49) 16 50) 17 51) 18 52) ∧ n = 53 ∧ Zd 53 d0 d' ∧ d' 37 = d 37) := by
  refine am_enter (by decide) (by simp [Value.category]) (Nat.le_of_ble_eq_true rfl) ?_
  refine am_go cd_M_init hc_M_init 0 1 (pc' := 1) (L' := [some (.ref 40)]) (st' := [.ref 40]) rfl ?_
  refine am_objInit (am_at hc_M_init 1 rfl) (tw 305 rfl rfl) (tw 14 rfl rfl) (tw 15 rfl rfl) (Nat.le_of_ble_eq_true rfl) ?_
  refine am_go cd_M_init hc_M_init 2 2 (pc' := 6) (L' := [some (.ref 40)]) (st' := [.int 5, .ref 40]) rfl ?_
  refine sn_newI (bc := 11) (bs := 1328) 5 (am_at hc_M_init 4 rfl) (tw 52 rfl rfl) rfl (Nat.le_of_ble_eq_true rfl) (Nat.le_of_ble_eq_true rfl) rfl ?_
  have hz1 := hz.nd (Nat.le_of_ble_eq_true rfl)
  have hk1 : (am_nd d 41 (fun _ => 0)) 37 = d 37 := (am_nd_ne (by decide)).trans rfl
  generalize am_nd d 41 (fun _ => 0) = d1 at hz1 hk1 ⊢
  show am_W _ K0 _ (e + 1) 11 1328 m_M_init 8 [some (.ref 40)] [.ref 41, .ref 40] (SHn L f0 f13 f36 un) 42 d1 _
  refine am_putS 3 1 k_r3 (am_at hc_M_init 5 rfl) rfl (Nat.le_of_ble_eq_true rfl) rfl (Nat.le_of_ble_eq_true rfl) k_ok3 (tw 307 rfl rfl) rfl rfl rfl rfl ?_
  rw [SHn_40 1 41]
  refine am_go cd_M_init hc_M_init 6 2 (pc' := 13) (L' := [some (.ref 40)]) (st' := [.int 5, .ref 40]) rfl ?_
  refine sn_newI (bc := 10) (bs := 1323) 5 (am_at hc_M_init 8 rfl) (tw 52 rfl rfl) rfl (Nat.le_of_ble_eq_true rfl) (Nat.le_of_ble_eq_true rfl) rfl ?_
  have hz2 := hz1.nd (Nat.le_of_ble_eq_true rfl)
  have hk2 : (am_nd d1 42 (fun _ => 0)) 37 = d 37 := (am_nd_ne (by decide)).trans hk1
  generalize am_nd d1 42 (fun _ => 0) = d2 at hz2 hk2 ⊢
  show am_W _ K0 _ (e + 1) 10 1323 m_M_init 15 [some (.ref 40)] [.ref 42, .ref 40] (SHn L f0 f13 f36 (us un 1 41)) 43 d2 _
  refine am_putS 3 2 k_r3 (am_at hc_M_init 9 rfl) rfl (Nat.le_of_ble_eq_true rfl) rfl (Nat.le_of_ble_eq_true rfl) k_ok3 (tw 308 rfl rfl) rfl rfl rfl rfl ?_
  rw [SHn_40 2 42]
  refine am_go cd_M_init hc_M_init 10 2 (pc' := 21) (L' := [some (.ref 40)]) (st' := [.int 6, .ref 40]) rfl ?_
  refine sn_newI (bc := 9) (bs := 1317) 6 (am_at hc_M_init 12 rfl) (tw 52 rfl rfl) rfl (Nat.le_of_ble_eq_true rfl) (Nat.le_of_ble_eq_true rfl) rfl ?_
  have hz3 := hz2.nd (Nat.le_of_ble_eq_true rfl)
  have hk3 : (am_nd d2 43 (fun _ => 0)) 37 = d 37 := (am_nd_ne (by decide)).trans hk2
  generalize am_nd d2 43 (fun _ => 0) = d3 at hz3 hk3 ⊢
  show am_W _ K0 _ (e + 1) 9 1317 m_M_init 23 [some (.ref 40)] [.ref 43, .ref 40] (SHn L f0 f13 f36 (us (us un 1 41) 2 42)) 44 d3 _
  refine am_putS 3 4 k_r3 (am_at hc_M_init 13 rfl) rfl (Nat.le_of_ble_eq_true rfl) rfl (Nat.le_of_ble_eq_true rfl) k_ok3 (tw 310 rfl rfl) rfl rfl rfl rfl ?_
  rw [SHn_40 4 43]
  refine am_go cd_M_init hc_M_init 14 2 (pc' := 29) (L' := [some (.ref 40)]) (st' := [.int 40, .ref 40]) rfl ?_
  refine sn_newI (bc := 8) (bs := 1277) 40 (am_at hc_M_init 16 rfl) (tw 52 rfl rfl) rfl (Nat.le_of_ble_eq_true rfl) (Nat.le_of_ble_eq_true rfl) rfl ?_
  have hz4 := hz3.nd (Nat.le_of_ble_eq_true rfl)
  have hk4 : (am_nd d3 44 (fun _ => 0)) 37 = d 37 := (am_nd_ne (by decide)).trans hk3
  generalize am_nd d3 44 (fun _ => 0) = d4 at hz4 hk4 ⊢
  show am_W _ K0 _ (e + 1) 8 1277 m_M_init 31 [some (.ref 40)] [.ref 44, .ref 40] (SHn L f0 f13 f36 (us (us (us un 1 41) 2 42) 4 43)) 45 d4 _
  refine am_putS 3 6 k_r3 (am_at hc_M_init 17 rfl) rfl (Nat.le_of_ble_eq_true rfl) rfl (Nat.le_of_ble_eq_true rfl) k_ok3 (tw 312 rfl rfl) rfl rfl rfl rfl ?_
  rw [SHn_40 6 44]
  refine am_go cd_M_init hc_M_init 18 2 (pc' := 38) (L' := [some (.ref 40)]) (st' := [.int 320, .ref 40]) rfl ?_
  refine sn_newI (bc := 7) (bs := 957) 320 (am_at hc_M_init 20 rfl) (tw 52 rfl rfl) rfl (Nat.le_of_ble_eq_true rfl) (Nat.le_of_ble_eq_true rfl) rfl ?_
  have hz5 := hz4.nd (Nat.le_of_ble_eq_true rfl)
  have hk5 : (am_nd d4 45 (fun _ => 0)) 37 = d 37 := (am_nd_ne (by decide)).trans hk4
  generalize am_nd d4 45 (fun _ => 0) = d5 at hz5 hk5 ⊢
  show am_W _ K0 _ (e + 1) 7 957 m_M_init 40 [some (.ref 40)] [.ref 45, .ref 40] (SHn L f0 f13 f36 (us (us (us (us un 1 41) 2 42) 4 43) 6 44)) 46 d5 _
  refine am_putS 3 7 k_r3 (am_at hc_M_init 21 rfl) rfl (Nat.le_of_ble_eq_true rfl) rfl (Nat.le_of_ble_eq_true rfl) k_ok3 (tw 313 rfl rfl) rfl rfl rfl rfl ?_
  rw [SHn_40 7 45]
  refine am_go cd_M_init hc_M_init 22 2 (pc' := 45) (L' := [some (.ref 40)]) (st' := [.int 5, .ref 40]) rfl ?_
  refine sn_newI (bc := 6) (bs := 952) 5 (am_at hc_M_init 24 rfl) (tw 52 rfl rfl) rfl (Nat.le_of_ble_eq_true rfl) (Nat.le_of_ble_eq_true rfl) rfl ?_
  have hz6 := hz5.nd (Nat.le_of_ble_eq_true rfl)
  have hk6 : (am_nd d5 46 (fun _ => 0)) 37 = d 37 := (am_nd_ne (by decide)).trans hk5
  generalize am_nd d5 46 (fun _ => 0) = d6 at hz6 hk6 ⊢
  show am_W _ K0 _ (e + 1) 6 952 m_M_init 47 [some (.ref 40)] [.ref 46, .ref 40] (SHn L f0 f13 f36 (us (us (us (us (us un 1 41) 2 42) 4 43) 6 44) 7 45)) 47 d6 _
  refine am_putS 3 8 k_r3 (am_at hc_M_init 25 rfl) rfl (Nat.le_of_ble_eq_true rfl) rfl (Nat.le_of_ble_eq_true rfl) k_ok3 (tw 314 rfl rfl) rfl rfl rfl rfl ?_
  rw [SHn_40 8 46]
  refine am_go cd_M_init hc_M_init 26 2 (pc' := 54) (L' := [some (.ref 40)]) (st' := [.int 832, .ref 40]) rfl ?_
  refine sn_newI (bc := 5) (bs := 120) 832 (am_at hc_M_init 28 rfl) (tw 52 rfl rfl) rfl (Nat.le_of_ble_eq_true rfl) (Nat.le_of_ble_eq_true rfl) rfl ?_
  have hz7 := hz6.nd (Nat.le_of_ble_eq_true rfl)
  have hk7 : (am_nd d6 47 (fun _ => 0)) 37 = d 37 := (am_nd_ne (by decide)).trans hk6
  generalize am_nd d6 47 (fun _ => 0) = d7 at hz7 hk7 ⊢
  show am_W _ K0 _ (e + 1) 5 120 m_M_init 56 [some (.ref 40)] [.ref 47, .ref 40] (SHn L f0 f13 f36 (us (us (us (us (us (us un 1 41) 2 42) 4 43) 6 44) 7 45) 8 46)) 48 d7 _
  refine am_putS 3 9 k_r3 (am_at hc_M_init 29 rfl) rfl (Nat.le_of_ble_eq_true rfl) rfl (Nat.le_of_ble_eq_true rfl) k_ok3 (tw 315 rfl rfl) rfl rfl rfl rfl ?_
  rw [SHn_40 9 47]
  refine am_go cd_M_init hc_M_init 30 2 (pc' := 62) (L' := [some (.ref 40)]) (st' := [.int 64, .ref 40]) rfl ?_
  refine sn_newI (bc := 4) (bs := 56) 64 (am_at hc_M_init 32 rfl) (tw 52 rfl rfl) rfl (Nat.le_of_ble_eq_true rfl) (Nat.le_of_ble_eq_true rfl) rfl ?_
  have hz8 := hz7.nd (Nat.le_of_ble_eq_true rfl)
  have hk8 : (am_nd d7 48 (fun _ => 0)) 37 = d 37 := (am_nd_ne (by decide)).trans hk7
  generalize am_nd d7 48 (fun _ => 0) = d8 at hz8 hk8 ⊢
  show am_W _ K0 _ (e + 1) 4 56 m_M_init 64 [some (.ref 40)] [.ref 48, .ref 40] (SHn L f0 f13 f36 (us (us (us (us (us (us (us un 1 41) 2 42) 4 43) 6 44) 7 45) 8 46) 9 47)) 49 d8 _
  refine am_putS 3 11 k_r3 (am_at hc_M_init 33 rfl) rfl (Nat.le_of_ble_eq_true rfl) rfl (Nat.le_of_ble_eq_true rfl) k_ok3 (tw 317 rfl rfl) rfl rfl rfl rfl ?_
  rw [SHn_40 11 48]
  refine am_go cd_M_init hc_M_init 34 2 (pc' := 70) (L' := [some (.ref 40)]) (st' := [.int 40, .ref 40]) rfl ?_
  refine sn_newI (bc := 3) (bs := 16) 40 (am_at hc_M_init 36 rfl) (tw 52 rfl rfl) rfl (Nat.le_of_ble_eq_true rfl) (Nat.le_of_ble_eq_true rfl) rfl ?_
  have hz9 := hz8.nd (Nat.le_of_ble_eq_true rfl)
  have hk9 : (am_nd d8 49 (fun _ => 0)) 37 = d 37 := (am_nd_ne (by decide)).trans hk8
  generalize am_nd d8 49 (fun _ => 0) = d9 at hz9 hk9 ⊢
  show am_W _ K0 _ (e + 1) 3 16 m_M_init 72 [some (.ref 40)] [.ref 49, .ref 40] (SHn L f0 f13 f36 (us (us (us (us (us (us (us (us un 1 41) 2 42) 4 43) 6 44) 7 45) 8 46) 9 47) 11 48)) 50 d9 _
  refine am_putS 3 12 k_r3 (am_at hc_M_init 37 rfl) rfl (Nat.le_of_ble_eq_true rfl) rfl (Nat.le_of_ble_eq_true rfl) k_ok3 (tw 318 rfl rfl) rfl rfl rfl rfl ?_
  rw [SHn_40 12 49]
  refine am_go cd_M_init hc_M_init 38 2 (pc' := 77) (L' := [some (.ref 40)]) (st' := [.int 5, .ref 40]) rfl ?_
  refine sn_newI (bc := 2) (bs := 11) 5 (am_at hc_M_init 40 rfl) (tw 52 rfl rfl) rfl (Nat.le_of_ble_eq_true rfl) (Nat.le_of_ble_eq_true rfl) rfl ?_
  have hz10 := hz9.nd (Nat.le_of_ble_eq_true rfl)
  have hk10 : (am_nd d9 50 (fun _ => 0)) 37 = d 37 := (am_nd_ne (by decide)).trans hk9
  generalize am_nd d9 50 (fun _ => 0) = d10 at hz10 hk10 ⊢
  show am_W _ K0 _ (e + 1) 2 11 m_M_init 79 [some (.ref 40)] [.ref 50, .ref 40] (SHn L f0 f13 f36 (us (us (us (us (us (us (us (us (us un 1 41) 2 42) 4 43) 6 44) 7 45) 8 46) 9 47) 11 48) 12 49)) 51 d10 _
  refine am_putS 3 16 k_r3 (am_at hc_M_init 41 rfl) rfl (Nat.le_of_ble_eq_true rfl) rfl (Nat.le_of_ble_eq_true rfl) k_ok3 (tw 322 rfl rfl) rfl rfl rfl rfl ?_
  rw [SHn_40 16 50]
  refine am_go cd_M_init hc_M_init 42 2 (pc' := 85) (L' := [some (.ref 40)]) (st' := [.int 6, .ref 40]) rfl ?_
  refine sn_newI (bc := 1) (bs := 5) 6 (am_at hc_M_init 44 rfl) (tw 52 rfl rfl) rfl (Nat.le_of_ble_eq_true rfl) (Nat.le_of_ble_eq_true rfl) rfl ?_
  have hz11 := hz10.nd (Nat.le_of_ble_eq_true rfl)
  have hk11 : (am_nd d10 51 (fun _ => 0)) 37 = d 37 := (am_nd_ne (by decide)).trans hk10
  generalize am_nd d10 51 (fun _ => 0) = d11 at hz11 hk11 ⊢
  show am_W _ K0 _ (e + 1) 1 5 m_M_init 87 [some (.ref 40)] [.ref 51, .ref 40] (SHn L f0 f13 f36 (us (us (us (us (us (us (us (us (us (us un 1 41) 2 42) 4 43) 6 44) 7 45) 8 46) 9 47) 11 48) 12 49) 16 50)) 52 d11 _
  refine am_putS 3 17 k_r3 (am_at hc_M_init 45 rfl) rfl (Nat.le_of_ble_eq_true rfl) rfl (Nat.le_of_ble_eq_true rfl) k_ok3 (tw 323 rfl rfl) rfl rfl rfl rfl ?_
  rw [SHn_40 17 51]
  refine am_go cd_M_init hc_M_init 46 2 (pc' := 92) (L' := [some (.ref 40)]) (st' := [.int 5, .ref 40]) rfl ?_
  refine sn_newI (bc := 0) (bs := 0) 5 (am_at hc_M_init 48 rfl) (tw 52 rfl rfl) rfl (Nat.le_of_ble_eq_true rfl) (Nat.le_of_ble_eq_true rfl) rfl ?_
  have hz12 := hz11.nd (Nat.le_of_ble_eq_true rfl)
  have hk12 : (am_nd d11 52 (fun _ => 0)) 37 = d 37 := (am_nd_ne (by decide)).trans hk11
  generalize am_nd d11 52 (fun _ => 0) = d12 at hz12 hk12 ⊢
  show am_W _ K0 _ (e + 1) 0 0 m_M_init 94 [some (.ref 40)] [.ref 52, .ref 40] (SHn L f0 f13 f36 (us (us (us (us (us (us (us (us (us (us (us un 1 41) 2 42) 4 43) 6 44) 7 45) 8 46) 9 47) 11 48) 12 49) 16 50) 17 51)) 53 d12 _
  refine am_putS 3 18 k_r3 (am_at hc_M_init 49 rfl) rfl (Nat.le_of_ble_eq_true rfl) rfl (Nat.le_of_ble_eq_true rfl) k_ok3 (tw 324 rfl rfl) rfl rfl rfl rfl ?_
  rw [SHn_40 18 52]
  exact am_vret (am_at hc_M_init 50 rfl) rfl ⟨rfl, rfl, rfl, hz12, hk12⟩
theorem SHn_full (L : Nat) : SHn L (us (us (us (us (us (us (us (us (us un 0 1) 1 2) 2 3) 3 4) 4 5) 5 6) 6 7) 7 13) 8 36) (us (us (us (us un 0 14) 5 15) 6 16) 7 26) (us (us (us un 0 37) 1 38) 2 39) (us (us (us (us (us (us (us (us (us (us (us (us un 1 41) 2 42) 4 43) 6 44) 7 45) 8 46) 9 47) 11 48) 12 49) 16 50) 17 51) 18 52) = SH L := by
  funext a
  unfold SHn
  by_cases z0 : a = 0
  · rw [if_pos z0, z0]
    show (3, 11, _) = (3, 11, _)
    congr 2; funext k
    rcases k with _ | _ | _ | _ | _ | _ | _ | _ | _ | k <;> first | rfl | simp [us, un]
  · rw [if_neg z0]
    by_cases z1 : a = 13
    · rw [if_pos z1, z1]
      show (4, 8, _) = (4, 8, _)
      congr 2; funext k
      rcases k with _ | _ | _ | _ | _ | _ | _ | _ | k <;> first | rfl | simp [us, un]
    · rw [if_neg z1]
      by_cases z2 : a = 36
      · rw [if_pos z2, z2]
        show (5, 3, _) = (5, 3, _)
        congr 2; funext k
        rcases k with _ | _ | _ | k <;> first | rfl | simp [us, un]
      · rw [if_neg z2]
        by_cases z3 : a = 40
        · rw [if_pos z3, z3]
          show (6, 19, _) = (6, 19, _)
          congr 2; funext k
          rcases k with _ | _ | _ | _ | _ | _ | _ | _ | _ | _ | _ | _ | _ | _ | _ | _ | _ | _ | _ | k <;> first | rfl | simp [us, un]
        · rw [if_neg z3]
