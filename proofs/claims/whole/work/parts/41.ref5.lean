theorem am_congrS {l : Launch} {C : am_Cfg} {x : am_X} {dep bc bs pc : Nat} {mi : am_M} {L : List (Option Value)} {st st' : List Value} {S : am_S} {nn : Nat} {d : am_D} {Q : Option Value → am_S → Nat → am_D → Prop} (h : st' = st) (kk : am_W l C x dep bc bs mi pc L st' S nn d Q) : am_W l C x dep bc bs mi pc L st S nn d Q := h ▸ kk
/-- k places from lo on are F's -/
def am_tr (d : am_D) (a lo k : Nat) (F : Nat → Int32) : am_D := am_nd d a (fun j => if lo ≤ j ∧ j < lo + k then F (j - lo) else d a j)
theorem am_tr_0 (d : am_D) (a lo : Nat) (F : Nat → Int32) : am_tr d a lo 0 F = d := by
  funext b; unfold am_tr am_nd
  by_cases h : b = a
  · subst h; simp only [if_true]; funext j; rw [if_neg (by omega)]
  · simp [h]
theorem am_tr_s (d : am_D) (a lo k : Nat) (F : Nat → Int32) : am_u (am_tr d a lo k F) a (lo + k) (F k) = am_tr d a lo (k + 1) F := by
  funext b j; unfold am_u am_tr am_nd
  by_cases h1 : b = a
  · by_cases h2 : j = lo + k
    · simp [h1, h2]
    · by_cases h3 : lo ≤ j ∧ j < lo + k
      · simp [h1, h2, h3, show j < lo + (k + 1) by omega]
      · have h4 : ¬ (lo ≤ j ∧ j < lo + (k + 1)) := by omega
        simp [h1, h2, h3, h4]
  · simp [h1]
theorem am_tr_in {d : am_D} {a lo k j : Nat} {F : Nat → Int32} (h : j < k) : am_tr d a lo k F a (lo + j) = F j := by unfold am_tr; rw [am_nd_self, if_pos (by omega), Nat.add_sub_cancel_left]
theorem am_tr_out {d : am_D} {a lo k j : Nat} {F : Nat → Int32} (h : j < lo ∨ lo + k ≤ j) : am_tr d a lo k F a j = d a j := by unfold am_tr; rw [am_nd_self, if_neg (by omega)]
theorem am_tr_ne {d : am_D} {a lo k b : Nat} {F : Nat → Int32} (h : b ≠ a) : am_tr d a lo k F b = d b := by unfold am_tr; exact am_nd_ne h
/-- what the reference's reader touches -/
def rmF (d d' : am_D) : Prop := (∀ a, a ≠ 40 → a ≠ 47 → a ≠ 48 → a ≠ 49 → d' a = d a) ∧ ∀ j, j ≠ 10 → j ≠ 13 → j ≠ 14 → d' 40 j = d 40 j
theorem rmF.rf {d : am_D} : rmF d d := ⟨fun _ _ _ _ _ => rfl, fun _ _ _ _ => rfl⟩
theorem rmF.trans {d d1 d2 : am_D} (h : rmF d d1) (h2 : rmF d1 d2) : rmF d d2 := ⟨fun a z1 z2 z3 z4 => (h2.1 a z1 z2 z3 z4).trans (h.1 a z1 z2 z3 z4), fun j z1 z2 z3 => (h2.2 j z1 z2 z3).trans (h.2 j z1 z2 z3)⟩
theorem rmF.f {d : am_D} {j : Nat} {v : Int32} (hj : j = 10 ∨ j = 13 ∨ j = 14) : rmF d (am_u d 40 j v) := ⟨fun a z _ _ _ => am_u_ne a z, fun i z1 z2 z3 => am_u_o (fun z => by omega)⟩
theorem rmF.w {d : am_D} {j : Nat} {v : Int32} : rmF d (am_u d 49 j v) := ⟨fun a _ _ _ z => am_u_ne a z, fun i _ _ _ => congrFun (am_u_ne 40 (by decide)) i⟩
theorem rmF.s {d : am_D} {k : Nat} {F : Nat → Int32} : rmF d (am_tb d 48 k F) := ⟨fun a _ _ z _ => am_tb_ne z, fun i _ _ _ => congrFun (am_tb_ne (by decide)) i⟩
theorem rmF.r {d : am_D} {lo k : Nat} {F : Nat → Int32} : rmF d (am_tr d 47 lo k F) := ⟨fun a _ z _ _ => am_tr_ne z, fun i _ _ _ => congrFun (am_tr_ne (by decide)) i⟩
theorem rmF.tm {d d' : am_D} {T : Nat → Nat} {n : Nat} (h : rmF d d') (ht : tm d T n) : tm d' T n := ht.to (h.2 5 (by decide) (by decide) (by decide)) (h.1 44 (by decide) (by decide) (by decide) (by decide))
abbrev Tb : Type := Nat → Int
/-- the stacks: the newest first -/
def tbs (d : am_D) : List Tb → Prop
  | [] => True
  | t :: ts => (tb_ok t ∧ ∀ s, s < 64 → d 47 (64 * ts.length + s) = zI (t s)) ∧ tbs d ts
def wts (d : am_D) : List Nat → Prop
  | [] => True
  | w :: ws => (d 49 ws.length = nI w ∧ w < 128) ∧ wts d ws
theorem tbs.to {d d' : am_D} : ∀ {ts : List Tb}, tbs d ts → (∀ j, j < 64 * ts.length → d' 47 j = d 47 j) → tbs d' ts
  | [], _, _ => trivial
  | t :: ts, h, hd => ⟨⟨h.1.1, fun s hs => (hd _ (by simp only [List.length_cons]; omega)).trans (h.1.2 s hs)⟩, tbs.to h.2 (fun j hj => hd j (by simp only [List.length_cons]; omega))⟩
theorem wts.to {d d' : am_D} : ∀ {ws : List Nat}, wts d ws → (∀ j, j < ws.length → d' 49 j = d 49 j) → wts d' ws
  | [], _, _ => trivial
  | w :: ws, h, hd => ⟨⟨(hd _ (by simp only [List.length_cons]; omega)).trans h.1.1, h.1.2⟩, wts.to h.2 (fun j hj => hd j (by simp only [List.length_cons]; omega))⟩
def rep (d : am_D) (ts : List Tb) (ws : List Nat) : Prop := (d 40 10 = nI ts.length ∧ ts.length ≤ 13 ∧ tbs d ts) ∧ d 40 13 = nI ws.length ∧ ws.length ≤ 40 ∧ wts d ws
def jw (w : Nat) (x y : Tb) : Tb := if w = 43 then jn x y else fun s => max (x s) (y s)
theorem tb_jw {w : Nat} {x y : Tb} (hx : tb_ok x) (hy : tb_ok y) : tb_ok (jw w x y) := by
  unfold jw; split
  · exact tb_jn hx hy
  · exact tb_max hx hy
def Red (all : Bool) : List Tb → List Nat → List Tb → List Nat → Prop
  | ts, [], ts', ws' => ts' = ts ∧ ws' = []
  | ts, w :: ws, ts', ws' => if w = 43 ∨ (all = true ∧ w = 94) then ∃ y x r, ts = y :: x :: r ∧ Red all (jw w x y :: r) ws ts' ws' else ts' = ts ∧ ws' = w :: ws
set_option maxRecDepth 100000 in
set_option maxHeartbeats 4000000 in
theorem c_M_number {l : Launch} {x : am_X} {e L : Nat} {d : am_D} {T : Nat → Nat} {n : Nat} (hr : tm d T n) {p q v : Nat} (hat : d 40 14 = nI p) (hp : p ≤ 40) (hN : pr_num T n 3 p 0 = (q, v)) (hq : pr_dg T n q = false) : cM l x (e + 1) L m_M_number [.ref 40] d (cR (some (.int (nI v))) (am_u d 40 14 (nI q))) := by
  refine cM.go (by decide) (by simp [Value.category]) (Nat.le_of_ble_eq_true rfl) ?_
  have hn := hr.2.1
  have hD : ∀ v, tm (am_u d 40 14 v) T n := fun v => hr.u (by decide) (by decide)
  refine am_go cd_M_number hc_M_number 0 2 (pc' := 2) (L' := [some (.ref 40), some (.int 0)]) (st' := []) rfl ?_
  have loop : ∀ k p0 v0, p0 ≤ 40 → pr_num T n k p0 v0 = (q, v) → cW l x (e + 1) L m_M_number 2 [some (.ref 40), some (.int (nI v0))] [] (am_u d 40 14 (nI p0)) (cR (some (.int (nI v))) (am_u d 40 14 (nI q))) := by
    intro k
    induction k with
    | zero =>
      intro p0 v0 hp0 he
      cases he
      refine am_go cd_M_number hc_M_number 2 2 (pc' := 4) (L' := [some (.ref 40), some (.int (nI v))]) (st' := [.ref 40, .ref 40]) rfl ?_
      refine am_getf 3 14 k_r3 (am_at hc_M_number 4 rfl) rfl (by decide) rfl (by decide) k_ok3 (Or.inl (tw 320 rfl rfl)) (congrArg Value.int am_u_i) ?_
      refine cW.callV1 10 [.int (bI (pr_dg T n q))] (st := []) [.int (nI q)] (am_at hc_M_number 5 rfl) g_M_digit (Or.inl (tw 401 rfl rfl)) (tw 403 rfl rfl) (tp 20 rfl rfl) 3 k_r3 rfl (by decide) rfl rfl rfl rfl (Nat.le_of_ble_eq_true rfl) (c_M_digit (hD _) (by omega)) rfl rfl ?_
      rw [hq]
      simp only [bI_f]
      refine am_if_eq 44 (am_at hc_M_number 6 rfl) (by decide) (fun q1 => ?_) (fun q1 => absurd rfl q1)
      refine am_go cd_M_number hc_M_number 26 1 (pc' := 45) (L' := [some (.ref 40), some (.int (nI v))]) (st' := [.int (nI v)]) rfl ?_
      exact am_iret (am_at hc_M_number 27 rfl) rfl rfl (cR_in rfl rfl)
    | succ k ih =>
      intro p0 v0 hp0 he
      unfold pr_num at he
      refine am_go cd_M_number hc_M_number 2 2 (pc' := 4) (L' := [some (.ref 40), some (.int (nI v0))]) (st' := [.ref 40, .ref 40]) rfl ?_
      refine am_getf 3 14 k_r3 (am_at hc_M_number 4 rfl) rfl (by decide) rfl (by decide) k_ok3 (Or.inl (tw 320 rfl rfl)) (congrArg Value.int am_u_i) ?_
      refine cW.callV1 10 [.int (bI (pr_dg T n p0))] (st := []) [.int (nI p0)] (am_at hc_M_number 5 rfl) g_M_digit (Or.inl (tw 401 rfl rfl)) (tw 403 rfl rfl) (tp 20 rfl rfl) 3 k_r3 rfl (by decide) rfl rfl rfl rfl (Nat.le_of_ble_eq_true rfl) (c_M_digit (hD _) (by omega)) rfl rfl ?_
      cases hg : pr_dg T n p0 with
      | false =>
        rw [hg, if_neg (by decide)] at he
        cases he
        simp only [bI_f]
        refine am_if_eq 44 (am_at hc_M_number 6 rfl) (by decide) (fun q1 => ?_) (fun q1 => absurd rfl q1)
        refine am_go cd_M_number hc_M_number 26 1 (pc' := 45) (L' := [some (.ref 40), some (.int (nI v))]) (st' := [.int (nI v)]) rfl ?_
        exact am_iret (am_at hc_M_number 27 rfl) rfl rfl (cR_in rfl rfl)
      | true =>
        rw [hg, if_pos rfl] at he
        obtain ⟨z1, z2, z3⟩ := pr_dg_lt hg
        simp only [bI_t]
        refine am_if_eq 44 (am_at hc_M_number 6 rfl) (by decide) (fun q1 => absurd q1 (by decide)) (fun q1 => ?_)
        refine am_go cd_M_number hc_M_number 7 3 (pc' := 17) (L' := [some (.ref 40), some (.int (nI v0))]) (st' := [.int (10 * nI v0)]) rfl ?_
        rw [show 10 * nI v0 = nI (10 * v0) from pk_mul 10 v0]
        refine am_go cd_M_number hc_M_number 10 1 (pc' := 18) (L' := [some (.ref 40), some (.int (nI v0))]) (st' := [.ref 40, .int (nI (10 * v0))]) rfl ?_
        refine am_getf 3 6 k_r3 (am_at hc_M_number 11 rfl) rfl (by decide) rfl (by decide) k_ok3 (Or.inl (tw 312 rfl rfl)) rfl ?_
        refine am_go cd_M_number hc_M_number 12 1 (pc' := 22) (L' := [some (.ref 40), some (.int (nI v0))]) (st' := [.ref 40, .ref 44, .int (nI (10 * v0))]) rfl ?_
        refine am_getf 3 14 k_r3 (am_at hc_M_number 13 rfl) rfl (by decide) rfl (by decide) k_ok3 (Or.inl (tw 320 rfl rfl)) (congrArg Value.int am_u_i) ?_
        refine am_iaload (p0) (am_at hc_M_number 14 rfl) rfl (Or.inl (by decide)) rfl (by show p0 < 40; omega) (Nat.le_of_ble_eq_true rfl) ?_
        rw [show am_u d 40 14 (nI p0) 44 p0 = nI (T p0) from ((hD _).2.2 p0 z1).1]
        refine am_go cd_M_number hc_M_number 15 1 (pc' := 27) (L' := [some (.ref 40), some (.int (nI v0))]) (st' := [.int (nI (10 * v0) + nI (T p0))]) rfl ?_
        rw [show nI (10 * v0) + nI (T p0) = nI (10 * v0 + T p0) from nI_add _ _]
        refine am_go cd_M_number hc_M_number 16 2 (pc' := 30) (L' := [some (.ref 40), some (.int (nI v0))]) (st' := [.int (nI (10 * v0 + T p0) - 48)]) rfl ?_
        rw [show nI (10 * v0 + T p0) - 48 = nI (v0 * 10 + (T p0 - 48)) from (pk_sub (b := 48) (by omega)).trans (congrArg nI (by omega))]
        refine am_go cd_M_number hc_M_number 18 3 (pc' := 33) (L' := [some (.ref 40), some (.int (nI (v0 * 10 + (T p0 - 48))))]) (st' := [.ref 40, .ref 40]) rfl ?_
        refine am_getf 3 14 k_r3 (am_at hc_M_number 21 rfl) rfl (by decide) rfl (by decide) k_ok3 (Or.inl (tw 320 rfl rfl)) (congrArg Value.int am_u_i) ?_
        refine am_go cd_M_number hc_M_number 22 2 (pc' := 38) (L' := [some (.ref 40), some (.int (nI (v0 * 10 + (T p0 - 48))))]) (st' := [.int (nI p0 + 1), .ref 40]) rfl ?_
        rw [show nI p0 + 1 = nI (p0 + 1) from nI_1 _]
        refine am_putI 3 14 k_r3 (am_at hc_M_number 24 rfl) rfl (by decide) rfl (by decide) k_ok3 (tw 320 rfl rfl) rfl rfl rfl rfl ?_
        rw [am_uu]
        refine am_go cd_M_number hc_M_number 25 1 (pc' := 2) (L' := [some (.ref 40), some (.int (nI (v0 * 10 + (T p0 - 48))))]) (st' := []) rfl ?_
        exact ih (p0 + 1) _ (by omega) he
  have h0 := loop 3 p 0 hp hN
  rw [am_u_id hat] at h0
  exact h0
set_option maxRecDepth 100000 in
set_option maxHeartbeats 4000000 in
theorem c_M_hold {l : Launch} {x : am_X} {e L : Nat} {d : am_D} {c k : Nat} (hk : d 40 13 = nI k) (hk2 : k < 40) : cM l x e L m_M_hold [.ref 40, .int (nI c)] d (cR none (am_u (am_u d 49 k (nI c)) 40 13 (nI (k + 1)))) := by
  refine cM.go (by decide) (by simp [Value.category]) (Nat.le_of_ble_eq_true rfl) ?_
  refine am_go cd_M_hold hc_M_hold 0 1 (pc' := 1) (L' := [some (.ref 40), some (.int (nI c))]) (st' := [.ref 40]) rfl ?_
  refine am_getf 3 12 k_r3 (am_at hc_M_hold 1 rfl) rfl (by decide) rfl (by decide) k_ok3 (Or.inl (tw 318 rfl rfl)) rfl ?_
  refine am_go cd_M_hold hc_M_hold 2 1 (pc' := 5) (L' := [some (.ref 40), some (.int (nI c))]) (st' := [.ref 40, .ref 49]) rfl ?_
  refine am_getf 3 13 k_r3 (am_at hc_M_hold 3 rfl) rfl (by decide) rfl (by decide) k_ok3 (Or.inl (tw 319 rfl rfl)) (congrArg Value.int hk) ?_
  refine am_go cd_M_hold hc_M_hold 4 1 (pc' := 9) (L' := [some (.ref 40), some (.int (nI c))]) (st' := [.int (nI c), .int (nI k), .ref 49]) rfl ?_
  refine am_iastore (k) (am_at hc_M_hold 5 rfl) rfl (by decide) rfl (by show k < 40; omega) (Nat.le_of_ble_eq_true rfl) ?_
  refine am_go cd_M_hold hc_M_hold 6 2 (pc' := 12) (L' := [some (.ref 40), some (.int (nI c))]) (st' := [.ref 40, .ref 40]) rfl ?_
  refine am_getf 3 13 k_r3 (am_at hc_M_hold 8 rfl) rfl (by decide) rfl (by decide) k_ok3 (Or.inl (tw 319 rfl rfl)) (congrArg Value.int ((congrFun (am_u_ne 40 (by decide)) 13).trans hk)) ?_
  refine am_go cd_M_hold hc_M_hold 9 2 (pc' := 17) (L' := [some (.ref 40), some (.int (nI c))]) (st' := [.int (nI k + 1), .ref 40]) rfl ?_
  rw [show nI k + 1 = nI (k + 1) from nI_1 _]
  refine am_putI 3 13 k_r3 (am_at hc_M_hold 11 rfl) rfl (by decide) rfl (by decide) k_ok3 (tw 319 rfl rfl) rfl rfl rfl rfl ?_
  exact am_vret (am_at hc_M_hold 12 rfl) rfl (cR_in rfl rfl)
set_option maxRecDepth 100000 in
set_option maxHeartbeats 4000000 in
theorem c_M_bundle {l : Launch} {x : am_X} {e L : Nat} {d : am_D} {T : Nat → Nat} {n : Nat} (hr : tm d T n) {p q v r m k : Nat} (hat : d 40 14 = nI p) (hp : p ≤ n) (hN : pr_num T n 3 p 0 = (q, v)) (hq : pr_dg T n q = false) (hL : pr_let T n 6 q 0 = (r, m)) (hr2 : pr_lt T n r = false) (hk : d 40 10 = nI k) (hk2 : k < 13) : cM l x (e + 2) L m_M_bundle [.ref 40] d (cR none (am_u (am_tr (am_u d 40 14 (nI r)) 47 (64 * k) 64 (fun s => zI (pr_bun v m s))) 40 10 (nI (k + 1)))) := by
  refine cM.go (by decide) (by simp [Value.category]) (Nat.le_of_ble_eq_true rfl) ?_
  have hn := hr.2.1
  have hq40 : q ≤ 40 := by have := pr_num_n T n 3 p 0 hp; rw [hN] at this; exact Nat.le_trans this hn
  have hm64 : m < 64 := by have := pr_let_lt T n 6 q 0 (by decide); rw [hL] at this; exact this
  have hD : ∀ v, tm (am_u d 40 14 v) T n := fun v => hr.u (by decide) (by decide)
  refine am_go cd_M_bundle hc_M_bundle 0 1 (pc' := 1) (L' := [some (.ref 40), none, none, none]) (st' := [.ref 40]) rfl ?_
  refine cW.callV1 4 [.int (nI v)] (st := []) [] (am_at hc_M_bundle 1 rfl) g_M_number (Or.inl (tw 417 rfl rfl)) (tw 419 rfl rfl) (tp 24 rfl rfl) 3 k_r3 rfl (by decide) rfl rfl rfl rfl (Nat.le_of_ble_eq_true rfl) (c_M_number hr hat (Nat.le_trans hp hn) hN hq) rfl rfl ?_
  refine am_go cd_M_bundle hc_M_bundle 2 3 (pc' := 7) (L' := [some (.ref 40), some (.int (nI v)), some (.int 0), none]) (st' := []) rfl ?_
  have hk' : am_u d 40 14 (nI r) 40 10 = nI k := (am_u_o (by decide)).trans hk
  generalize hD1 : am_u d 40 14 (nI r) = D1 at hk' ⊢
  have loop2 : ∀ j s, s + j = 64 → cW l x (e + 2) L m_M_bundle 50 [some (.ref 40), some (.int (nI v)), some (.int (nI m)), some (.int (nI s))] [] (am_tr D1 47 (64 * k) s (fun s => zI (pr_bun v m s))) (cR none (am_u (am_tr D1 47 (64 * k) 64 (fun s => zI (pr_bun v m s))) 40 10 (nI (k + 1)))) := by
    intro j
    induction j with
    | zero =>
      intro s hs
      have hs64 : s = 64 := by omega
      subst hs64
      refine am_go cd_M_bundle hc_M_bundle 31 2 (pc' := 53) (L' := [some (.ref 40), some (.int (nI v)), some (.int (nI m)), some (.int (nI 64))]) (st' := [.int 64, .int (nI 64)]) rfl ?_
      refine am_icmp_ge 88 (am_at hc_M_bundle 33 rfl) (by decide) (fun q1 => ?_) (fun q1 => absurd (nI_le (a := 64) (b := 64) (by omega) (by omega)) q1)
      refine am_go cd_M_bundle hc_M_bundle 53 2 (pc' := 90) (L' := [some (.ref 40), some (.int (nI v)), some (.int (nI m)), some (.int (nI 64))]) (st' := [.ref 40, .ref 40]) rfl ?_
      refine am_getf 3 10 k_r3 (am_at hc_M_bundle 55 rfl) rfl (by decide) rfl (by decide) k_ok3 (Or.inl (tw 316 rfl rfl)) (congrArg Value.int ((congrFun (am_tr_ne (by decide)) 10).trans hk')) ?_
      refine am_go cd_M_bundle hc_M_bundle 56 2 (pc' := 95) (L' := [some (.ref 40), some (.int (nI v)), some (.int (nI m)), some (.int (nI 64))]) (st' := [.int (nI k + 1), .ref 40]) rfl ?_
      rw [show nI k + 1 = nI (k + 1) from nI_1 _]
      refine am_putI 3 10 k_r3 (am_at hc_M_bundle 58 rfl) rfl (by decide) rfl (by decide) k_ok3 (tw 316 rfl rfl) rfl rfl rfl rfl ?_
      exact am_vret (am_at hc_M_bundle 59 rfl) rfl (cR_in rfl rfl)
    | succ j ih =>
      intro s hs
      refine am_go cd_M_bundle hc_M_bundle 31 2 (pc' := 53) (L' := [some (.ref 40), some (.int (nI v)), some (.int (nI m)), some (.int (nI s))]) (st' := [.int 64, .int (nI s)]) rfl ?_
      refine am_icmp_ge 88 (am_at hc_M_bundle 33 rfl) (by decide) (fun q1 => absurd q1 (nI_ge (a := s) (b := 64) (by omega) (by omega))) (fun q1 => ?_)
      refine am_go cd_M_bundle hc_M_bundle 34 1 (pc' := 57) (L' := [some (.ref 40), some (.int (nI v)), some (.int (nI m)), some (.int (nI s))]) (st' := [.ref 40]) rfl ?_
      refine am_getf 3 9 k_r3 (am_at hc_M_bundle 35 rfl) rfl (by decide) rfl (by decide) k_ok3 (Or.inl (tw 315 rfl rfl)) rfl ?_
      refine am_go cd_M_bundle hc_M_bundle 36 2 (pc' := 63) (L' := [some (.ref 40), some (.int (nI v)), some (.int (nI m)), some (.int (nI s))]) (st' := [.ref 40, .int 64, .ref 47]) rfl ?_
      refine am_getf 3 10 k_r3 (am_at hc_M_bundle 38 rfl) rfl (by decide) rfl (by decide) k_ok3 (Or.inl (tw 316 rfl rfl)) (congrArg Value.int ((congrFun (am_tr_ne (by decide)) 10).trans hk')) ?_
      refine am_go cd_M_bundle hc_M_bundle 39 1 (pc' := 67) (L' := [some (.ref 40), some (.int (nI v)), some (.int (nI m)), some (.int (nI s))]) (st' := [.int (64 * nI k), .ref 47]) rfl ?_
      rw [show 64 * nI k = nI (64 * k) from pk_mul 64 k]
      refine am_go cd_M_bundle hc_M_bundle 40 2 (pc' := 69) (L' := [some (.ref 40), some (.int (nI v)), some (.int (nI m)), some (.int (nI s))]) (st' := [.int (nI (64 * k) + nI s), .ref 47]) rfl ?_
      rw [show nI (64 * k) + nI s = nI (64 * k + s) from nI_add _ _]
      refine am_go cd_M_bundle hc_M_bundle 42 3 (pc' := 72) (L' := [some (.ref 40), some (.int (nI v)), some (.int (nI m)), some (.int (nI s))]) (st' := [.int (nI s &&& nI m), .int (nI (64 * k + s)), .ref 47]) rfl ?_
      rw [show nI s &&& nI m = nI (s &&& m) from nI_and _ _]
      refine am_go cd_M_bundle hc_M_bundle 45 1 (pc' := 73) (L' := [some (.ref 40), some (.int (nI v)), some (.int (nI m)), some (.int (nI s))]) (st' := [.int (nI m), .int (nI (s &&& m)), .int (nI (64 * k + s)), .ref 47]) rfl ?_
      have hle : s &&& m ≤ m := Nat.and_le_right
      refine am_icmp_ne 80 (am_at hc_M_bundle 46 rfl) (by decide) (fun q2 => ?_) (fun q2 => ?_)
      · have hne : ¬ (s &&& m = m) := fun z => q2 (by rw [z])
        refine am_go cd_M_bundle hc_M_bundle 49 1 (pc' := 81) (L' := [some (.ref 40), some (.int (nI v)), some (.int (nI m)), some (.int (nI s))]) (st' := [.int 0, .int (nI (64 * k + s)), .ref 47]) rfl ?_
        have eF : (fun s => zI (pr_bun v m s)) s = (0 : Int32) := by show zI (pr_bun v m s) = 0; unfold pr_bun; rw [if_neg hne]; rfl
        refine am_congrS (st' := [.int ((fun s => zI (pr_bun v m s)) s), .int (nI (64 * k + s)), .ref 47]) (by rw [eF]) ?_
        refine am_iastore (64 * k + s) (am_at hc_M_bundle 50 rfl) rfl (by decide) rfl (by show 64 * k + s < 832; omega) (Nat.le_of_ble_eq_true rfl) ?_
        rw [am_tr_s D1 47 (64 * k) s (fun s => zI (pr_bun v m s))]
        refine am_go cd_M_bundle hc_M_bundle 51 2 (pc' := 50) (L' := [some (.ref 40), some (.int (nI v)), some (.int (nI m)), some (.int (nI s + 1))]) (st' := []) rfl ?_
        rw [nI_1]
        exact ih (s + 1) (by omega)
      · have hne : s &&& m = m := (nI_eq (by omega) (by omega)).mp q2
        refine am_go cd_M_bundle hc_M_bundle 47 2 (pc' := 81) (L' := [some (.ref 40), some (.int (nI v)), some (.int (nI m)), some (.int (nI s))]) (st' := [.int (nI v), .int (nI (64 * k + s)), .ref 47]) rfl ?_
        have eF : (fun s => zI (pr_bun v m s)) s = nI v := by show zI (pr_bun v m s) = nI v; unfold pr_bun; rw [if_pos hne, nI_zI]
        refine am_congrS (st' := [.int ((fun s => zI (pr_bun v m s)) s), .int (nI (64 * k + s)), .ref 47]) (by rw [eF]) ?_
        refine am_iastore (64 * k + s) (am_at hc_M_bundle 50 rfl) rfl (by decide) rfl (by show 64 * k + s < 832; omega) (Nat.le_of_ble_eq_true rfl) ?_
        rw [am_tr_s D1 47 (64 * k) s (fun s => zI (pr_bun v m s))]
        refine am_go cd_M_bundle hc_M_bundle 51 2 (pc' := 50) (L' := [some (.ref 40), some (.int (nI v)), some (.int (nI m)), some (.int (nI s + 1))]) (st' := []) rfl ?_
        rw [nI_1]
        exact ih (s + 1) (by omega)
  subst hD1
  have loop : ∀ j p0 m0, p0 ≤ 40 → pr_let T n j p0 m0 = (r, m) → cW l x (e + 2) L m_M_bundle 7 [some (.ref 40), some (.int (nI v)), some (.int (nI m0)), none] [] (am_u d 40 14 (nI p0)) (cR none (am_u (am_tr (am_u d 40 14 (nI r)) 47 (64 * k) 64 (fun s => zI (pr_bun v m s))) 40 10 (nI (k + 1)))) := by
    intro j
    induction j with
    | zero =>
      intro p0 m0 hp0 he
      cases he
      refine am_go cd_M_bundle hc_M_bundle 5 2 (pc' := 9) (L' := [some (.ref 40), some (.int (nI v)), some (.int (nI m)), none]) (st' := [.ref 40, .ref 40]) rfl ?_
      refine am_getf 3 14 k_r3 (am_at hc_M_bundle 7 rfl) rfl (by decide) rfl (by decide) k_ok3 (Or.inl (tw 320 rfl rfl)) (congrArg Value.int am_u_i) ?_
      refine cW.callV1 15 [.int (bI (pr_lt T n r))] (st := []) [.int (nI r)] (am_at hc_M_bundle 8 rfl) g_M_letter (Or.inl (tw 405 rfl rfl)) (tw 407 rfl rfl) (tp 21 rfl rfl) 3 k_r3 rfl (by decide) rfl rfl rfl rfl (Nat.le_of_ble_eq_true rfl) (c_M_letter (hD _) (by omega)) rfl rfl ?_
      rw [hr2]
      simp only [bI_f]
      refine am_if_eq 48 (am_at hc_M_bundle 9 rfl) (by decide) (fun q1 => ?_) (fun q1 => absurd rfl q1)
      refine am_go cd_M_bundle hc_M_bundle 29 2 (pc' := 50) (L' := [some (.ref 40), some (.int (nI v)), some (.int (nI m)), some (.int 0)]) (st' := []) rfl ?_
      have h0 := loop2 64 0 rfl
      rw [am_tr_0] at h0
      exact h0
    | succ j ih =>
      intro p0 m0 hp0 he
      unfold pr_let at he
      refine am_go cd_M_bundle hc_M_bundle 5 2 (pc' := 9) (L' := [some (.ref 40), some (.int (nI v)), some (.int (nI m0)), none]) (st' := [.ref 40, .ref 40]) rfl ?_
      refine am_getf 3 14 k_r3 (am_at hc_M_bundle 7 rfl) rfl (by decide) rfl (by decide) k_ok3 (Or.inl (tw 320 rfl rfl)) (congrArg Value.int am_u_i) ?_
      refine cW.callV1 15 [.int (bI (pr_lt T n p0))] (st := []) [.int (nI p0)] (am_at hc_M_bundle 8 rfl) g_M_letter (Or.inl (tw 405 rfl rfl)) (tw 407 rfl rfl) (tp 21 rfl rfl) 3 k_r3 rfl (by decide) rfl rfl rfl rfl (Nat.le_of_ble_eq_true rfl) (c_M_letter (hD _) (by omega)) rfl rfl ?_
      by_cases hg : pr_lt T n p0 = true ∧ m0.testBit (T p0 - 97) = false
      · rw [if_pos hg] at he
        rw [hg.1]
        obtain ⟨z1, z2, z3⟩ := pr_lt_lt hg.1
        simp only [bI_t]
        refine am_if_eq 48 (am_at hc_M_bundle 9 rfl) (by decide) (fun q1 => absurd q1 (by decide)) (fun q1 => ?_)
        refine am_go cd_M_bundle hc_M_bundle 10 3 (pc' := 21) (L' := [some (.ref 40), some (.int (nI v)), some (.int (nI m0)), none]) (st' := [.ref 40, .int 1, .int (nI m0)]) rfl ?_
        refine am_getf 3 6 k_r3 (am_at hc_M_bundle 13 rfl) rfl (by decide) rfl (by decide) k_ok3 (Or.inl (tw 312 rfl rfl)) rfl ?_
        refine am_go cd_M_bundle hc_M_bundle 14 1 (pc' := 25) (L' := [some (.ref 40), some (.int (nI v)), some (.int (nI m0)), none]) (st' := [.ref 40, .ref 44, .int 1, .int (nI m0)]) rfl ?_
        refine am_getf 3 14 k_r3 (am_at hc_M_bundle 15 rfl) rfl (by decide) rfl (by decide) k_ok3 (Or.inl (tw 320 rfl rfl)) (congrArg Value.int am_u_i) ?_
        refine am_iaload (p0) (am_at hc_M_bundle 16 rfl) rfl (Or.inl (by decide)) rfl (by show p0 < 40; omega) (Nat.le_of_ble_eq_true rfl) ?_
        rw [show am_u d 40 14 (nI p0) 44 p0 = nI (T p0) from ((hD _).2.2 p0 z1).1]
        refine am_go cd_M_bundle hc_M_bundle 17 3 (pc' := 33) (L' := [some (.ref 40), some (.int (nI v)), some (.int (nI m0)), none]) (st' := [.int (1 <<< ((nI (T p0) - 97) &&& 31)), .int (nI m0)]) rfl ?_
        rw [nI_sh (T p0) z2 z3]
        refine am_go cd_M_bundle hc_M_bundle 20 1 (pc' := 34) (L' := [some (.ref 40), some (.int (nI v)), some (.int (nI m0)), none]) (st' := [.int (nI m0 ||| nI (2 ^ (T p0 - 97)))]) rfl ?_
        rw [show nI m0 ||| nI (2 ^ (T p0 - 97)) = nI (m0 ||| 2 ^ (T p0 - 97)) from nI_or _ _]
        refine am_go cd_M_bundle hc_M_bundle 21 3 (pc' := 37) (L' := [some (.ref 40), some (.int (nI v)), some (.int (nI (m0 ||| 2 ^ (T p0 - 97)))), none]) (st' := [.ref 40, .ref 40]) rfl ?_
        refine am_getf 3 14 k_r3 (am_at hc_M_bundle 24 rfl) rfl (by decide) rfl (by decide) k_ok3 (Or.inl (tw 320 rfl rfl)) (congrArg Value.int am_u_i) ?_
        refine am_go cd_M_bundle hc_M_bundle 25 2 (pc' := 42) (L' := [some (.ref 40), some (.int (nI v)), some (.int (nI (m0 ||| 2 ^ (T p0 - 97)))), none]) (st' := [.int (nI p0 + 1), .ref 40]) rfl ?_
        rw [show nI p0 + 1 = nI (p0 + 1) from nI_1 _]
        refine am_putI 3 14 k_r3 (am_at hc_M_bundle 27 rfl) rfl (by decide) rfl (by decide) k_ok3 (tw 320 rfl rfl) rfl rfl rfl rfl ?_
        rw [am_uu]
        refine am_go cd_M_bundle hc_M_bundle 28 1 (pc' := 7) (L' := [some (.ref 40), some (.int (nI v)), some (.int (nI (m0 ||| 2 ^ (T p0 - 97)))), none]) (st' := []) rfl ?_
        exact ih (p0 + 1) _ (by omega) he
      · rw [if_neg hg] at he
        cases he
        rw [hr2]
        simp only [bI_f]
        refine am_if_eq 48 (am_at hc_M_bundle 9 rfl) (by decide) (fun q1 => ?_) (fun q1 => absurd rfl q1)
        refine am_go cd_M_bundle hc_M_bundle 29 2 (pc' := 50) (L' := [some (.ref 40), some (.int (nI v)), some (.int (nI m)), some (.int 0)]) (st' := []) rfl ?_
        have h0 := loop2 64 0 rfl
        rw [am_tr_0] at h0
        exact h0
  exact loop 6 q 0 hq40 hL
