/-- one of the 4096 pairs of sets -/
def cnd (x y : Tb) (s t : Nat) : Int := if (t &&& 63) &&& (t / 64) = 0 ∧ (t &&& 63) &&& s = t &&& 63 ∧ (t / 64) &&& s = t / 64 then x (t &&& 63) + y (t / 64) else 0
theorem dis_all : (List.range 64).all (fun s => (List.range 64).all (fun a => !(decide (a &&& s = a)) || (List.range 64).all (fun b => !(decide (b &&& s = b) && decide (a &&& b = 0)) || decide (b &&& (s - a) = b)))) = true := by decide +kernel
theorem dis_sub {s a b : Nat} (hs : s < 64) (h1 : a &&& b = 0) (h2 : a &&& s = a) (h3 : b &&& s = b) : b &&& (s - a) = b := by
  have h := List.all_eq_true.mp (List.all_eq_true.mp dis_all s (List.mem_range.mpr hs)) a (List.mem_range.mpr (sub_lt hs h2))
  simp only [h2, decide_true, Bool.not_true, Bool.false_or] at h
  have h' := List.all_eq_true.mp h b (List.mem_range.mpr (sub_lt hs h3))
  simpa [h1, h3] using h'
theorem dis_back : (List.range 64).all (fun s => (List.range 64).all (fun a => !(decide (a &&& s = a)) || (decide (a &&& (s - a) = 0) && decide ((s - a) &&& s = s - a) && decide ((a + 64 * (s - a)) &&& 63 = a) && decide ((a + 64 * (s - a)) / 64 = s - a)))) = true := by decide +kernel
theorem cnd_le {x y : Tb} (hy : tb_ok y) (hj : tb_ok (jn x y)) {s t : Nat} (hs : s < 64) : cnd x y s t ≤ jn x y s := by
  unfold cnd
  split
  · rename_i h
    obtain ⟨h1, h2, h3⟩ := h
    have g1 := dis_sub hs h1 h2 h3
    have g2 := hy.2 (t / 64) (s - (t &&& 63)) (by omega) g1
    have g3 := jn_ge x y hs h2
    omega
  · exact (hj.1 s hs).1
theorem cnd_at {x y : Tb} {s a : Nat} (hs : s < 64) (ha : a &&& s = a) : cnd x y s (a + 64 * (s - a)) = x a + y (s - a) := by
  have h := List.all_eq_true.mp (List.all_eq_true.mp dis_back s (List.mem_range.mpr hs)) a (List.mem_range.mpr (sub_lt hs ha))
  simp only [ha, decide_true, Bool.not_true, Bool.false_or, Bool.and_eq_true, decide_eq_true_eq] at h
  obtain ⟨⟨⟨h1, h2⟩, h3⟩, h4⟩ := h
  unfold cnd
  rw [h3, h4, if_pos ⟨h1, ha, h2⟩]
theorem jn_top {x y : Tb} {s : Nat} {m : Int} (hs : s < 64) (h1 : m ≤ jn x y s) (h2 : ∀ t, t < 4096 → cnd x y s t ≤ m) : m = jn x y s := by
  obtain ⟨p, hp, e⟩ := jn_is x y hs
  have hle := sub_le hp
  have := h2 (p + 64 * (s - p)) (by omega)
  rw [cnd_at hs hp] at this
  omega
theorem jn_l {x y : Tb} (hy : tb_ok y) {s : Nat} (hs : s < 64) : x s ≤ jn x y s := by
  have := jn_ge x y hs (Nat.and_self s)
  rw [Nat.sub_self, hy.zero] at this; omega
theorem jn_r {x y : Tb} (hx : tb_ok x) {s : Nat} (hs : s < 64) : y s ≤ jn x y s := by
  have := jn_ge x y hs (p := 0) (Nat.zero_and s)
  rw [Nat.sub_zero, hx.zero] at this; omega
theorem nI_shr6' : ∀ b, b < 64 → ∀ a, a < 64 → nI (64 * b + a) >>> ((6 : Int32) &&& 31) = nI b := by decide +kernel
theorem nI_shr6 (t : Nat) (ht : t < 4096) : nI t >>> ((6 : Int32) &&& 31) = nI (t / 64) := by
  have h := nI_shr6' (t / 64) (by omega) (t % 64) (by omega)
  rwa [Nat.div_add_mod] at h
theorem nI_nand : ∀ a, a < 64 → ∀ s, s < 64 → (nI a &&& (nI s ^^^ (-1 : Int32)) = 0 ↔ a &&& s = a) := by decide +kernel
theorem nI_and0 : ∀ a, a < 64 → ∀ s, s < 64 → (nI (a &&& s) = 0 ↔ a &&& s = 0) := by decide +kernel
theorem and63 (t : Nat) : t &&& 63 < 64 := Nat.lt_of_le_of_lt Nat.and_le_right (by decide)
theorem jw_43 (x y : Tb) : jw 43 x y = jn x y := by unfold jw; rw [if_pos rfl]
theorem jw_n {w : Nat} (h : ¬ w = 43) (x y : Tb) (s : Nat) : jw w x y s = max (x s) (y s) := by unfold jw; rw [if_neg h]
set_option maxRecDepth 100000 in
set_option maxHeartbeats 4000000 in
theorem c_M_join {l : Launch} {x : am_X} {e L : Nat} {d : am_D} {c k : Nat} {X Y : Tb} (hc : c < 128) (hk : d 40 10 = nI (k + 2)) (hk2 : k + 2 ≤ 13) (tx : tb_ok X) (ty : tb_ok Y) (hx : ∀ s, s < 64 → d 47 (64 * k + s) = zI (X s)) (hy : ∀ s, s < 64 → d 47 (64 * (k + 1) + s) = zI (Y s)) : cM l x (e + 0) L m_M_join [.ref 40, .int (nI c)] d (cR none (am_tr (am_tb (am_u d 40 10 (nI (k + 1))) 48 64 (fun s => zI (jw c X Y s))) 47 (64 * k) 64 (fun s => zI (jw c X Y s)))) := by
  refine cM.go (by decide) (by simp [Value.category]) (Nat.le_of_ble_eq_true rfl) ?_
  refine am_go cd_M_join hc_M_join 0 2 (pc' := 2) (L' := [some (.ref 40), some (.int (nI c)), none, none, none, none, none, none, none, none, none]) (st' := [.ref 40, .ref 40]) rfl ?_
  refine am_getf 3 10 k_r3 (am_at hc_M_join 2 rfl) rfl (by decide) rfl (by decide) k_ok3 (Or.inl (tw 316 rfl rfl)) (congrArg Value.int hk) ?_
  refine am_go cd_M_join hc_M_join 3 2 (pc' := 7) (L' := [some (.ref 40), some (.int (nI c)), none, none, none, none, none, none, none, none, none]) (st' := [.int (nI (k + 2) - 1), .ref 40]) rfl ?_
  rw [show nI (k + 2) - 1 = nI (k + 1) from pk_sub (a := k + 2) (b := 1) (by omega)]
  refine am_putI 3 10 k_r3 (am_at hc_M_join 5 rfl) rfl (by decide) rfl (by decide) k_ok3 (tw 316 rfl rfl) rfl rfl rfl rfl ?_
  have hk0 : am_u d 40 10 (nI (k + 1)) 40 10 = nI (k + 1) := am_u_i
  have hx0 : ∀ s, s < 64 → am_u d 40 10 (nI (k + 1)) 47 (64 * k + s) = zI (X s) := fun s hs => by rw [am_u_ne 47 (by decide)]; exact hx s hs
  have hy0 : ∀ s, s < 64 → am_u d 40 10 (nI (k + 1)) 47 (64 * (k + 1) + s) = zI (Y s) := fun s hs => by rw [am_u_ne 47 (by decide)]; exact hy s hs
  generalize am_u d 40 10 (nI (k + 1)) = D0 at hk0 hx0 hy0 ⊢
  refine am_go cd_M_join hc_M_join 6 2 (pc' := 13) (L' := [some (.ref 40), some (.int (nI c)), none, none, none, none, none, none, none, none, none]) (st' := [.ref 40, .int 64]) rfl ?_
  refine am_getf 3 10 k_r3 (am_at hc_M_join 8 rfl) rfl (by decide) rfl (by decide) k_ok3 (Or.inl (tw 316 rfl rfl)) (congrArg Value.int hk0) ?_
  refine am_go cd_M_join hc_M_join 9 2 (pc' := 18) (L' := [some (.ref 40), some (.int (nI c)), none, none, none, none, none, none, none, none, none]) (st' := [.int (nI (k + 1) - 1), .int 64]) rfl ?_
  rw [show nI (k + 1) - 1 = nI k from nI_pred k]
  refine am_go cd_M_join hc_M_join 11 1 (pc' := 19) (L' := [some (.ref 40), some (.int (nI c)), none, none, none, none, none, none, none, none, none]) (st' := [.int (64 * nI k)]) rfl ?_
  rw [show 64 * nI k = nI (64 * k) from pk_mul 64 k]
  refine am_go cd_M_join hc_M_join 12 3 (pc' := 23) (L' := [some (.ref 40), some (.int (nI c)), some (.int (nI (64 * k))), none, none, none, none, none, none, none, none]) (st' := [.ref 40, .int 64]) rfl ?_
  refine am_getf 3 10 k_r3 (am_at hc_M_join 15 rfl) rfl (by decide) rfl (by decide) k_ok3 (Or.inl (tw 316 rfl rfl)) (congrArg Value.int hk0) ?_
  refine am_go cd_M_join hc_M_join 16 1 (pc' := 27) (L' := [some (.ref 40), some (.int (nI c)), some (.int (nI (64 * k))), none, none, none, none, none, none, none, none]) (st' := [.int (64 * nI (k + 1))]) rfl ?_
  rw [show 64 * nI (k + 1) = nI (64 * (k + 1)) from pk_mul 64 (k + 1)]
  refine am_go cd_M_join hc_M_join 17 3 (pc' := 31) (L' := [some (.ref 40), some (.int (nI c)), some (.int (nI (64 * k))), some (.int (nI (64 * (k + 1)))), some (.int 0), none, none, none, none, none, none]) (st' := []) rfl ?_
  have hj := tb_jn tx ty
  have loop2 : ∀ j s, s + j = 64 → cW l x (e + 0) L m_M_join 218 [some (.ref 40), some (.int (nI c)), some (.int (nI (64 * k))), some (.int (nI (64 * (k + 1)))), some (.int (nI s)), none, none, none, none, none, none] [] (am_tr (am_tb D0 48 64 (fun s => zI (jw c X Y s))) 47 (64 * k) s (fun s => zI (jw c X Y s))) (cR none (am_tr (am_tb D0 48 64 (fun s => zI (jw c X Y s))) 47 (64 * k) 64 (fun s => zI (jw c X Y s)))) := by
    intro j
    induction j with
    | zero =>
      intro s hs
      have hs64 : s = 64 := by omega
      subst hs64
      refine am_go cd_M_join hc_M_join 122 2 (pc' := 222) (L' := [some (.ref 40), some (.int (nI c)), some (.int (nI (64 * k))), some (.int (nI (64 * (k + 1)))), some (.int (nI 64)), none, none, none, none, none, none]) (st' := [.int 64, .int (nI 64)]) rfl ?_
      refine am_icmp_ge 247 (am_at hc_M_join 124 rfl) (by decide) (fun q1 => ?_) (fun q1 => absurd (nI_le (a := 64) (b := 64) (by omega) (by omega)) q1)
      exact am_vret (am_at hc_M_join 137 rfl) rfl (cR_in rfl rfl)
    | succ j ih =>
      intro s hs
      refine am_go cd_M_join hc_M_join 122 2 (pc' := 222) (L' := [some (.ref 40), some (.int (nI c)), some (.int (nI (64 * k))), some (.int (nI (64 * (k + 1)))), some (.int (nI s)), none, none, none, none, none, none]) (st' := [.int 64, .int (nI s)]) rfl ?_
      refine am_icmp_ge 247 (am_at hc_M_join 124 rfl) (by decide) (fun q1 => absurd q1 (nI_ge (a := s) (b := 64) (by omega) (by omega))) (fun q1 => ?_)
      refine am_go cd_M_join hc_M_join 125 1 (pc' := 226) (L' := [some (.ref 40), some (.int (nI c)), some (.int (nI (64 * k))), some (.int (nI (64 * (k + 1)))), some (.int (nI s)), none, none, none, none, none, none]) (st' := [.ref 40]) rfl ?_
      refine am_getf 3 9 k_r3 (am_at hc_M_join 126 rfl) rfl (by decide) rfl (by decide) k_ok3 (Or.inl (tw 315 rfl rfl)) rfl ?_
      refine am_go cd_M_join hc_M_join 127 3 (pc' := 233) (L' := [some (.ref 40), some (.int (nI c)), some (.int (nI (64 * k))), some (.int (nI (64 * (k + 1)))), some (.int (nI s)), none, none, none, none, none, none]) (st' := [.int (nI (64 * k) + nI s), .ref 47]) rfl ?_
      rw [show nI (64 * k) + nI s = nI (64 * k + s) from nI_add _ _]
      refine am_go cd_M_join hc_M_join 130 1 (pc' := 234) (L' := [some (.ref 40), some (.int (nI c)), some (.int (nI (64 * k))), some (.int (nI (64 * (k + 1)))), some (.int (nI s)), none, none, none, none, none, none]) (st' := [.ref 40, .int (nI (64 * k + s)), .ref 47]) rfl ?_
      refine am_getf 3 11 k_r3 (am_at hc_M_join 131 rfl) rfl (by decide) rfl (by decide) k_ok3 (Or.inl (tw 317 rfl rfl)) rfl ?_
      refine am_go cd_M_join hc_M_join 132 1 (pc' := 239) (L' := [some (.ref 40), some (.int (nI c)), some (.int (nI (64 * k))), some (.int (nI (64 * (k + 1)))), some (.int (nI s)), none, none, none, none, none, none]) (st' := [.int (nI s), .ref 48, .int (nI (64 * k + s)), .ref 47]) rfl ?_
      refine am_iaload (s) (am_at hc_M_join 133 rfl) rfl (Or.inl (by decide)) rfl (by show s < 64; omega) (Nat.le_of_ble_eq_true rfl) ?_
      rw [show am_tr (am_tb D0 48 64 (fun s => zI (jw c X Y s))) 47 (64 * k) s (fun s => zI (jw c X Y s)) 48 s = (fun s => zI (jw c X Y s)) s from (congrFun (am_tr_ne (by decide)) s).trans (am_tb_lt (by omega))]
      refine am_iastore (64 * k + s) (am_at hc_M_join 134 rfl) rfl (by decide) rfl (by show 64 * k + s < 832; omega) (Nat.le_of_ble_eq_true rfl) ?_
      rw [am_tr_s (am_tb D0 48 64 (fun s => zI (jw c X Y s))) 47 (64 * k) s (fun s => zI (jw c X Y s))]
      refine am_go cd_M_join hc_M_join 135 2 (pc' := 218) (L' := [some (.ref 40), some (.int (nI c)), some (.int (nI (64 * k))), some (.int (nI (64 * (k + 1)))), some (.int (nI s + 1)), none, none, none, none, none, none]) (st' := []) rfl ?_
      rw [nI_1]
      exact ih (s + 1) (by omega)
  have loop : ∀ j s, s + j = 64 → cW l x (e + 0) L m_M_join 31 [some (.ref 40), some (.int (nI c)), some (.int (nI (64 * k))), some (.int (nI (64 * (k + 1)))), some (.int (nI s)), none, none, none, none, none, none] [] (am_tb D0 48 s (fun s => zI (jw c X Y s))) (cR none (am_tr (am_tb D0 48 64 (fun s => zI (jw c X Y s))) 47 (64 * k) 64 (fun s => zI (jw c X Y s)))) := by
    intro j
    induction j with
    | zero =>
      intro s hs
      have hs64 : s = 64 := by omega
      subst hs64
      refine am_go cd_M_join hc_M_join 20 2 (pc' := 35) (L' := [some (.ref 40), some (.int (nI c)), some (.int (nI (64 * k))), some (.int (nI (64 * (k + 1)))), some (.int (nI 64)), none, none, none, none, none, none]) (st' := [.int 64, .int (nI 64)]) rfl ?_
      refine am_icmp_ge 215 (am_at hc_M_join 22 rfl) (by decide) (fun q1 => ?_) (fun q1 => absurd (nI_le (a := 64) (b := 64) (by omega) (by omega)) q1)
      refine am_go cd_M_join hc_M_join 120 2 (pc' := 218) (L' := [some (.ref 40), some (.int (nI c)), some (.int (nI (64 * k))), some (.int (nI (64 * (k + 1)))), some (.int 0), none, none, none, none, none, none]) (st' := []) rfl ?_
      have h0 := loop2 64 0 rfl
      rw [am_tr_0] at h0
      exact h0
    | succ j ih =>
      intro s hs
      have hs64 : s < 64 := by omega
      have hDx : ∀ i, i < 64 → am_tb D0 48 s (fun s => zI (jw c X Y s)) 47 (64 * k + i) = zI (X i) := fun i hi => by rw [am_tb_ne (by decide)]; exact hx0 i hi
      have hDy : ∀ i, i < 64 → am_tb D0 48 s (fun s => zI (jw c X Y s)) 47 (64 * (k + 1) + i) = zI (Y i) := fun i hi => by rw [am_tb_ne (by decide)]; exact hy0 i hi
      have bX := fun i (hi : i < 64) => tx.b hi
      have bY := fun i (hi : i < 64) => ty.b hi
      have bJ := hj.b hs64
      have done : ∀ (tt : Option Value), cW l x (e + 0) L m_M_join 200 [some (.ref 40), some (.int (nI c)), some (.int (nI (64 * k))), some (.int (nI (64 * (k + 1)))), some (.int (nI s)), some (.int (zI (jw c X Y s))), tt, none, none, none, none] [] (am_tb D0 48 s (fun s => zI (jw c X Y s))) (cR none (am_tr (am_tb D0 48 64 (fun s => zI (jw c X Y s))) 47 (64 * k) 64 (fun s => zI (jw c X Y s)))) := by
        intro tt
        refine am_weak (L' := [some (.ref 40), some (.int (nI c)), some (.int (nI (64 * k))), some (.int (nI (64 * (k + 1)))), some (.int (nI s)), some (.int (zI (jw c X Y s))), none, none, none, none, none]) ⟨rfl, rfl, rfl, rfl, rfl, rfl, trivial⟩ ?_
        refine am_go cd_M_join hc_M_join 113 1 (pc' := 201) (L' := [some (.ref 40), some (.int (nI c)), some (.int (nI (64 * k))), some (.int (nI (64 * (k + 1)))), some (.int (nI s)), some (.int (zI (jw c X Y s))), none, none, none, none, none]) (st' := [.ref 40]) rfl ?_
        refine am_getf 3 11 k_r3 (am_at hc_M_join 114 rfl) rfl (by decide) rfl (by decide) k_ok3 (Or.inl (tw 317 rfl rfl)) rfl ?_
        refine am_go cd_M_join hc_M_join 115 2 (pc' := 208) (L' := [some (.ref 40), some (.int (nI c)), some (.int (nI (64 * k))), some (.int (nI (64 * (k + 1)))), some (.int (nI s)), some (.int (zI (jw c X Y s))), none, none, none, none, none]) (st' := [.int (zI (jw c X Y s)), .int (nI s), .ref 48]) rfl ?_
        refine am_iastore (s) (am_at hc_M_join 117 rfl) rfl (by decide) rfl (by show s < 64; omega) (Nat.le_of_ble_eq_true rfl) ?_
        rw [am_tb_s D0 48 s (fun s => zI (jw c X Y s))]
        refine am_go cd_M_join hc_M_join 118 2 (pc' := 31) (L' := [some (.ref 40), some (.int (nI c)), some (.int (nI (64 * k))), some (.int (nI (64 * (k + 1)))), some (.int (nI s + 1)), some (.int (zI (jw c X Y s))), none, none, none, none, none]) (st' := []) rfl ?_
        refine am_weak (L' := [some (.ref 40), some (.int (nI c)), some (.int (nI (64 * k))), some (.int (nI (64 * (k + 1)))), some (.int (nI s + 1)), none, none, none, none, none, none]) ⟨rfl, rfl, rfl, rfl, rfl, trivial⟩ ?_
        rw [nI_1]
        exact ih (s + 1) (by omega)
      have inner : c = 43 → ∀ q t m, t + q = 4096 → 0 ≤ m → m ≤ jn X Y s → (∀ t', t' < t → cnd X Y s t' ≤ m) → cW l x (e + 0) L m_M_join 85 [some (.ref 40), some (.int (nI c)), some (.int (nI (64 * k))), some (.int (nI (64 * (k + 1)))), some (.int (nI s)), some (.int (zI m)), some (.int (nI t)), none, none, none, none] [] (am_tb D0 48 s (fun s => zI (jw c X Y s))) (cR none (am_tr (am_tb D0 48 64 (fun s => zI (jw c X Y s))) 47 (64 * k) 64 (fun s => zI (jw c X Y s)))) := by
        intro hc q
        induction q with
        | zero =>
          intro t m ht hm0 hm hcn
          have ht4 : t = 4096 := by omega
          subst ht4
          refine am_go cd_M_join hc_M_join 52 2 (pc' := 90) (L' := [some (.ref 40), some (.int (nI c)), some (.int (nI (64 * k))), some (.int (nI (64 * (k + 1)))), some (.int (nI s)), some (.int (zI m)), some (.int (nI 4096)), none, none, none, none]) (st' := [.int 4096, .int (nI 4096)]) rfl ?_
          refine am_icmp_ge 200 (am_at hc_M_join 54 rfl) (by decide) (fun q1 => ?_) (fun q1 => absurd (nI_le (a := 4096) (b := 4096) (by omega) (by omega)) q1)
          have e0 : m = jw c X Y s := by rw [hc, jw_43]; exact jn_top hs64 hm hcn
          rw [e0]
          exact done _
        | succ q ihq =>
          intro t m ht hm0 hm hcn
          refine am_go cd_M_join hc_M_join 52 2 (pc' := 90) (L' := [some (.ref 40), some (.int (nI c)), some (.int (nI (64 * k))), some (.int (nI (64 * (k + 1)))), some (.int (nI s)), some (.int (zI m)), some (.int (nI t)), none, none, none, none]) (st' := [.int 4096, .int (nI t)]) rfl ?_
          refine am_icmp_ge 200 (am_at hc_M_join 54 rfl) (by decide) (fun q1 => absurd q1 (nI_ge (a := t) (b := 4096) (by omega) (by omega))) (fun q1 => ?_)
          refine am_go cd_M_join hc_M_join 55 2 (pc' := 96) (L' := [some (.ref 40), some (.int (nI c)), some (.int (nI (64 * k))), some (.int (nI (64 * (k + 1)))), some (.int (nI s)), some (.int (zI m)), some (.int (nI t)), none, none, none, none]) (st' := [.int 43, .int (nI c)]) rfl ?_
          refine am_icmp_ne 200 (am_at hc_M_join 57 rfl) (by decide) (fun q2 => absurd (by rw [hc]; rfl) q2) (fun q2 => ?_)
          refine am_go cd_M_join hc_M_join 58 3 (pc' := 104) (L' := [some (.ref 40), some (.int (nI c)), some (.int (nI (64 * k))), some (.int (nI (64 * (k + 1)))), some (.int (nI s)), some (.int (zI m)), some (.int (nI t)), none, none, none, none]) (st' := [.int (nI t &&& 63)]) rfl ?_
          rw [show nI t &&& 63 = nI (t &&& 63) from nI_and t 63]
          refine am_go cd_M_join hc_M_join 61 4 (pc' := 111) (L' := [some (.ref 40), some (.int (nI c)), some (.int (nI (64 * k))), some (.int (nI (64 * (k + 1)))), some (.int (nI s)), some (.int (zI m)), some (.int (nI t)), some (.int (nI (t &&& 63))), none, none, none]) (st' := [.int (nI t >>> (6 &&& 31))]) rfl ?_
          rw [show nI t >>> (6 &&& 31) = nI (t / 64) from nI_shr6 t (by omega)]
          refine am_go cd_M_join hc_M_join 65 4 (pc' := 118) (L' := [some (.ref 40), some (.int (nI c)), some (.int (nI (64 * k))), some (.int (nI (64 * (k + 1)))), some (.int (nI s)), some (.int (zI m)), some (.int (nI t)), some (.int (nI (t &&& 63))), some (.int (nI (t / 64))), none, none]) (st' := [.int (nI (t &&& 63) &&& nI (t / 64))]) rfl ?_
          rw [show nI (t &&& 63) &&& nI (t / 64) = nI ((t &&& 63) &&& (t / 64)) from nI_and _ _]
          have ha := and63 t
          have hb : t / 64 < 64 := by omega
          have hcl := cnd_le (x := X) ty hj (t := t) hs64
          have fin : 0 ≤ cnd X Y s t → cW l x (e + 0) L m_M_join 178 [some (.ref 40), some (.int (nI c)), some (.int (nI (64 * k))), some (.int (nI (64 * (k + 1)))), some (.int (nI s)), some (.int (zI m)), some (.int (nI t)), some (.int (nI (t &&& 63))), some (.int (nI (t / 64))), none, some (.int (zI (cnd X Y s t)))] [] (am_tb D0 48 s (fun s => zI (jw c X Y s))) (cR none (am_tr (am_tb D0 48 64 (fun s => zI (jw c X Y s))) 47 (64 * k) 64 (fun s => zI (jw c X Y s)))) := by
            intro h0
            refine am_go cd_M_join hc_M_join 104 2 (pc' := 182) (L' := [some (.ref 40), some (.int (nI c)), some (.int (nI (64 * k))), some (.int (nI (64 * (k + 1)))), some (.int (nI s)), some (.int (zI m)), some (.int (nI t)), some (.int (nI (t &&& 63))), some (.int (nI (t / 64))), none, some (.int (zI (cnd X Y s t)))]) (st' := [.int (zI m), .int (zI (cnd X Y s t))]) rfl ?_
            refine am_icmp_le 190 (am_at hc_M_join 106 rfl) (by decide) (fun qa => ?_) (fun qa => ?_)
            · have z := (zI_le (by omega) (by omega) (by omega) (by omega)).mp qa
              refine am_go cd_M_join hc_M_join 109 4 (pc' := 85) (L' := [some (.ref 40), some (.int (nI c)), some (.int (nI (64 * k))), some (.int (nI (64 * (k + 1)))), some (.int (nI s)), some (.int (zI m)), some (.int (nI t + 1)), some (.int (nI (t &&& 63))), some (.int (nI (t / 64))), none, some (.int (zI (cnd X Y s t)))]) (st' := []) rfl ?_
              refine am_weak (L' := [some (.ref 40), some (.int (nI c)), some (.int (nI (64 * k))), some (.int (nI (64 * (k + 1)))), some (.int (nI s)), some (.int (zI m)), some (.int (nI t + 1)), none, none, none, none]) ⟨rfl, rfl, rfl, rfl, rfl, rfl, rfl, trivial⟩ ?_
              rw [nI_1]
              exact ihq (t + 1) m (by omega) hm0 hm (fun t' ht' => (Nat.lt_or_ge t' t).elim (fun g => hcn t' g) (fun g => by rw [show t' = t by omega]; exact z))
            · have z : ¬ cnd X Y s t ≤ m := fun z => qa ((zI_le (by omega) (by omega) (by omega) (by omega)).mpr z)
              refine am_go cd_M_join hc_M_join 107 2 (pc' := 192) (L' := [some (.ref 40), some (.int (nI c)), some (.int (nI (64 * k))), some (.int (nI (64 * (k + 1)))), some (.int (nI s)), some (.int (zI m)), some (.int (nI t)), some (.int (nI (t &&& 63))), some (.int (nI (t / 64))), none, some (.int (zI (cnd X Y s t)))]) (st' := [.int (zI (cnd X Y s t))]) rfl ?_
              refine am_go cd_M_join hc_M_join 110 3 (pc' := 85) (L' := [some (.ref 40), some (.int (nI c)), some (.int (nI (64 * k))), some (.int (nI (64 * (k + 1)))), some (.int (nI s)), some (.int (zI (cnd X Y s t))), some (.int (nI t + 1)), some (.int (nI (t &&& 63))), some (.int (nI (t / 64))), none, some (.int (zI (cnd X Y s t)))]) (st' := []) rfl ?_
              refine am_weak (L' := [some (.ref 40), some (.int (nI c)), some (.int (nI (64 * k))), some (.int (nI (64 * (k + 1)))), some (.int (nI s)), some (.int (zI (cnd X Y s t))), some (.int (nI t + 1)), none, none, none, none]) ⟨rfl, rfl, rfl, rfl, rfl, rfl, rfl, trivial⟩ ?_
              rw [nI_1]
              exact ihq (t + 1) (cnd X Y s t) (by omega) h0 hcl (fun t' ht' => (Nat.lt_or_ge t' t).elim (fun g => Int.le_trans (hcn t' g) (by omega)) (fun g => by rw [show t' = t by omega]; exact Int.le_refl _))
          refine am_if_ne 145 (am_at hc_M_join 69 rfl) (by decide) (fun q3 => ?_) (fun q3 => ?_)
          · skip
            have e0 : cnd X Y s t = 0 := if_neg (fun z => q3 ((nI_and0 _ ha _ hb).mpr z.1))
            refine am_go cd_M_join hc_M_join 84 3 (pc' := 150) (L' := [some (.ref 40), some (.int (nI c)), some (.int (nI (64 * k))), some (.int (nI (64 * (k + 1)))), some (.int (nI s)), some (.int (zI m)), some (.int (nI t)), some (.int (nI (t &&& 63))), some (.int (nI (t / 64))), some (.int 0), none]) (st' := [.int 0]) rfl ?_
            refine am_if_eq 175 (am_at hc_M_join 87 rfl) (by decide) (fun qz => ?_) (fun qz => absurd rfl qz)
            refine am_go cd_M_join hc_M_join 102 2 (pc' := 178) (L' := [some (.ref 40), some (.int (nI c)), some (.int (nI (64 * k))), some (.int (nI (64 * (k + 1)))), some (.int (nI s)), some (.int (zI m)), some (.int (nI t)), some (.int (nI (t &&& 63))), some (.int (nI (t / 64))), some (.int 0), some (.int 0)]) (st' := []) rfl ?_
            refine am_weak (L' := [some (.ref 40), some (.int (nI c)), some (.int (nI (64 * k))), some (.int (nI (64 * (k + 1)))), some (.int (nI s)), some (.int (zI m)), some (.int (nI t)), some (.int (nI (t &&& 63))), some (.int (nI (t / 64))), none, some (.int 0)]) ⟨rfl, rfl, rfl, rfl, rfl, rfl, rfl, rfl, rfl, rfl, trivial⟩ ?_
            have h0 := fin (by omega)
            rw [e0] at h0
            exact h0
          · have p1 := (nI_and0 _ ha _ hb).mp q3
            refine am_go cd_M_join hc_M_join 70 5 (pc' := 128) (L' := [some (.ref 40), some (.int (nI c)), some (.int (nI (64 * k))), some (.int (nI (64 * (k + 1)))), some (.int (nI s)), some (.int (zI m)), some (.int (nI t)), some (.int (nI (t &&& 63))), some (.int (nI (t / 64))), none, none]) (st' := [.int (nI (t &&& 63) &&& (nI s ^^^ (-1)))]) rfl ?_
            refine am_if_ne 145 (am_at hc_M_join 75 rfl) (by decide) (fun q4 => ?_) (fun q4 => ?_)
            · skip
              have e0 : cnd X Y s t = 0 := if_neg (fun z => q4 ((nI_nand _ ha _ hs64).mpr z.2.1))
              refine am_go cd_M_join hc_M_join 84 3 (pc' := 150) (L' := [some (.ref 40), some (.int (nI c)), some (.int (nI (64 * k))), some (.int (nI (64 * (k + 1)))), some (.int (nI s)), some (.int (zI m)), some (.int (nI t)), some (.int (nI (t &&& 63))), some (.int (nI (t / 64))), some (.int 0), none]) (st' := [.int 0]) rfl ?_
              refine am_if_eq 175 (am_at hc_M_join 87 rfl) (by decide) (fun qz => ?_) (fun qz => absurd rfl qz)
              refine am_go cd_M_join hc_M_join 102 2 (pc' := 178) (L' := [some (.ref 40), some (.int (nI c)), some (.int (nI (64 * k))), some (.int (nI (64 * (k + 1)))), some (.int (nI s)), some (.int (zI m)), some (.int (nI t)), some (.int (nI (t &&& 63))), some (.int (nI (t / 64))), some (.int 0), some (.int 0)]) (st' := []) rfl ?_
              refine am_weak (L' := [some (.ref 40), some (.int (nI c)), some (.int (nI (64 * k))), some (.int (nI (64 * (k + 1)))), some (.int (nI s)), some (.int (zI m)), some (.int (nI t)), some (.int (nI (t &&& 63))), some (.int (nI (t / 64))), none, some (.int 0)]) ⟨rfl, rfl, rfl, rfl, rfl, rfl, rfl, rfl, rfl, rfl, trivial⟩ ?_
              have h0 := fin (by omega)
              rw [e0] at h0
              exact h0
            · have p2 := (nI_nand _ ha _ hs64).mp q4
              refine am_go cd_M_join hc_M_join 76 5 (pc' := 138) (L' := [some (.ref 40), some (.int (nI c)), some (.int (nI (64 * k))), some (.int (nI (64 * (k + 1)))), some (.int (nI s)), some (.int (zI m)), some (.int (nI t)), some (.int (nI (t &&& 63))), some (.int (nI (t / 64))), none, none]) (st' := [.int (nI (t / 64) &&& (nI s ^^^ (-1)))]) rfl ?_
              refine am_if_ne 145 (am_at hc_M_join 81 rfl) (by decide) (fun q5 => ?_) (fun q5 => ?_)
              · skip
                have e0 : cnd X Y s t = 0 := if_neg (fun z => q5 ((nI_nand _ hb _ hs64).mpr z.2.2))
                refine am_go cd_M_join hc_M_join 84 3 (pc' := 150) (L' := [some (.ref 40), some (.int (nI c)), some (.int (nI (64 * k))), some (.int (nI (64 * (k + 1)))), some (.int (nI s)), some (.int (zI m)), some (.int (nI t)), some (.int (nI (t &&& 63))), some (.int (nI (t / 64))), some (.int 0), none]) (st' := [.int 0]) rfl ?_
                refine am_if_eq 175 (am_at hc_M_join 87 rfl) (by decide) (fun qz => ?_) (fun qz => absurd rfl qz)
                refine am_go cd_M_join hc_M_join 102 2 (pc' := 178) (L' := [some (.ref 40), some (.int (nI c)), some (.int (nI (64 * k))), some (.int (nI (64 * (k + 1)))), some (.int (nI s)), some (.int (zI m)), some (.int (nI t)), some (.int (nI (t &&& 63))), some (.int (nI (t / 64))), some (.int 0), some (.int 0)]) (st' := []) rfl ?_
                refine am_weak (L' := [some (.ref 40), some (.int (nI c)), some (.int (nI (64 * k))), some (.int (nI (64 * (k + 1)))), some (.int (nI s)), some (.int (zI m)), some (.int (nI t)), some (.int (nI (t &&& 63))), some (.int (nI (t / 64))), none, some (.int 0)]) ⟨rfl, rfl, rfl, rfl, rfl, rfl, rfl, rfl, rfl, rfl, trivial⟩ ?_
                have h0 := fin (by omega)
                rw [e0] at h0
                exact h0
              · have p3 := (nI_nand _ hb _ hs64).mp q5
                refine am_go cd_M_join hc_M_join 82 2 (pc' := 146) (L' := [some (.ref 40), some (.int (nI c)), some (.int (nI (64 * k))), some (.int (nI (64 * (k + 1)))), some (.int (nI s)), some (.int (zI m)), some (.int (nI t)), some (.int (nI (t &&& 63))), some (.int (nI (t / 64))), none, none]) (st' := [.int 1]) rfl ?_
                refine am_go cd_M_join hc_M_join 85 2 (pc' := 150) (L' := [some (.ref 40), some (.int (nI c)), some (.int (nI (64 * k))), some (.int (nI (64 * (k + 1)))), some (.int (nI s)), some (.int (zI m)), some (.int (nI t)), some (.int (nI (t &&& 63))), some (.int (nI (t / 64))), some (.int 1), none]) (st' := [.int 1]) rfl ?_
                refine am_if_eq 175 (am_at hc_M_join 87 rfl) (by decide) (fun qz => absurd qz (by decide)) (fun qz => ?_)
                have e0 : cnd X Y s t = X (t &&& 63) + Y (t / 64) := if_pos ⟨p1, p2, p3⟩
                refine am_go cd_M_join hc_M_join 88 1 (pc' := 154) (L' := [some (.ref 40), some (.int (nI c)), some (.int (nI (64 * k))), some (.int (nI (64 * (k + 1)))), some (.int (nI s)), some (.int (zI m)), some (.int (nI t)), some (.int (nI (t &&& 63))), some (.int (nI (t / 64))), some (.int 1), none]) (st' := [.ref 40]) rfl ?_
                refine am_getf 3 9 k_r3 (am_at hc_M_join 89 rfl) rfl (by decide) rfl (by decide) k_ok3 (Or.inl (tw 315 rfl rfl)) rfl ?_
                refine am_go cd_M_join hc_M_join 90 3 (pc' := 161) (L' := [some (.ref 40), some (.int (nI c)), some (.int (nI (64 * k))), some (.int (nI (64 * (k + 1)))), some (.int (nI s)), some (.int (zI m)), some (.int (nI t)), some (.int (nI (t &&& 63))), some (.int (nI (t / 64))), some (.int 1), none]) (st' := [.int (nI (64 * k) + nI (t &&& 63)), .ref 47]) rfl ?_
                rw [show nI (64 * k) + nI (t &&& 63) = nI (64 * k + (t &&& 63)) from nI_add _ _]
                refine am_iaload (64 * k + (t &&& 63)) (am_at hc_M_join 93 rfl) rfl (Or.inl (by decide)) rfl (by show 64 * k + (t &&& 63) < 832; omega) (Nat.le_of_ble_eq_true rfl) ?_
                rw [show am_tb D0 48 s (fun s => zI (jw c X Y s)) 47 (64 * k + (t &&& 63)) = zI (X (t &&& 63)) from hDx _ ha]
                refine am_go cd_M_join hc_M_join 94 1 (pc' := 163) (L' := [some (.ref 40), some (.int (nI c)), some (.int (nI (64 * k))), some (.int (nI (64 * (k + 1)))), some (.int (nI s)), some (.int (zI m)), some (.int (nI t)), some (.int (nI (t &&& 63))), some (.int (nI (t / 64))), some (.int 1), none]) (st' := [.ref 40, .int (zI (X (t &&& 63)))]) rfl ?_
                refine am_getf 3 9 k_r3 (am_at hc_M_join 95 rfl) rfl (by decide) rfl (by decide) k_ok3 (Or.inl (tw 315 rfl rfl)) rfl ?_
                refine am_go cd_M_join hc_M_join 96 3 (pc' := 170) (L' := [some (.ref 40), some (.int (nI c)), some (.int (nI (64 * k))), some (.int (nI (64 * (k + 1)))), some (.int (nI s)), some (.int (zI m)), some (.int (nI t)), some (.int (nI (t &&& 63))), some (.int (nI (t / 64))), some (.int 1), none]) (st' := [.int (nI (64 * (k + 1)) + nI (t / 64)), .ref 47, .int (zI (X (t &&& 63)))]) rfl ?_
                rw [show nI (64 * (k + 1)) + nI (t / 64) = nI (64 * (k + 1) + t / 64) from nI_add _ _]
                refine am_iaload (64 * (k + 1) + t / 64) (am_at hc_M_join 99 rfl) rfl (Or.inl (by decide)) rfl (by show 64 * (k + 1) + t / 64 < 832; omega) (Nat.le_of_ble_eq_true rfl) ?_
                rw [show am_tb D0 48 s (fun s => zI (jw c X Y s)) 47 (64 * (k + 1) + t / 64) = zI (Y (t / 64)) from hDy _ hb]
                refine am_go cd_M_join hc_M_join 100 1 (pc' := 172) (L' := [some (.ref 40), some (.int (nI c)), some (.int (nI (64 * k))), some (.int (nI (64 * (k + 1)))), some (.int (nI s)), some (.int (zI m)), some (.int (nI t)), some (.int (nI (t &&& 63))), some (.int (nI (t / 64))), some (.int 1), none]) (st' := [.int (zI (X (t &&& 63)) + zI (Y (t / 64)))]) rfl ?_
                rw [show zI (X (t &&& 63)) + zI (Y (t / 64)) = zI (X (t &&& 63) + Y (t / 64)) from zI_add _ _]
                rw [show X (t &&& 63) + Y (t / 64) = cnd X Y s t from e0.symm]
                refine am_go cd_M_join hc_M_join 101 1 (pc' := 176) (L' := [some (.ref 40), some (.int (nI c)), some (.int (nI (64 * k))), some (.int (nI (64 * (k + 1)))), some (.int (nI s)), some (.int (zI m)), some (.int (nI t)), some (.int (nI (t &&& 63))), some (.int (nI (t / 64))), some (.int 1), none]) (st' := [.int (zI (cnd X Y s t))]) rfl ?_
                refine am_go cd_M_join hc_M_join 103 1 (pc' := 178) (L' := [some (.ref 40), some (.int (nI c)), some (.int (nI (64 * k))), some (.int (nI (64 * (k + 1)))), some (.int (nI s)), some (.int (zI m)), some (.int (nI t)), some (.int (nI (t &&& 63))), some (.int (nI (t / 64))), some (.int 1), some (.int (zI (cnd X Y s t)))]) (st' := []) rfl ?_
                refine am_weak (L' := [some (.ref 40), some (.int (nI c)), some (.int (nI (64 * k))), some (.int (nI (64 * (k + 1)))), some (.int (nI s)), some (.int (zI m)), some (.int (nI t)), some (.int (nI (t &&& 63))), some (.int (nI (t / 64))), none, some (.int (zI (cnd X Y s t)))]) ⟨rfl, rfl, rfl, rfl, rfl, rfl, rfl, rfl, rfl, rfl, trivial⟩ ?_
                exact fin (by have := bX _ ha; have := bY _ hb; omega)
      have gX := jn_l (x := X) ty hs64
      have gY := jn_r (y := Y) tx hs64
      have b1 := bX s hs64
      have b2 := bY s hs64
      have mid : cW l x (e + 0) L m_M_join 82 [some (.ref 40), some (.int (nI c)), some (.int (nI (64 * k))), some (.int (nI (64 * (k + 1)))), some (.int (nI s)), some (.int (zI (max (X s) (Y s)))), none, none, none, none, none] [] (am_tb D0 48 s (fun s => zI (jw c X Y s))) (cR none (am_tr (am_tb D0 48 64 (fun s => zI (jw c X Y s))) 47 (64 * k) 64 (fun s => zI (jw c X Y s)))) := by
        refine am_go cd_M_join hc_M_join 50 2 (pc' := 85) (L' := [some (.ref 40), some (.int (nI c)), some (.int (nI (64 * k))), some (.int (nI (64 * (k + 1)))), some (.int (nI s)), some (.int (zI (max (X s) (Y s)))), some (.int 0), none, none, none, none]) (st' := []) rfl ?_
        by_cases hc : c = 43
        · exact inner hc 4096 0 _ rfl (by omega) (by omega) (fun t' ht' => by omega)
        · skip
          refine am_go cd_M_join hc_M_join 52 2 (pc' := 90) (L' := [some (.ref 40), some (.int (nI c)), some (.int (nI (64 * k))), some (.int (nI (64 * (k + 1)))), some (.int (nI s)), some (.int (zI (max (X s) (Y s)))), some (.int 0), none, none, none, none]) (st' := [.int 4096, .int 0]) rfl ?_
          refine am_icmp_ge 200 (am_at hc_M_join 54 rfl) (by decide) (fun q1 => absurd q1 (by decide)) (fun q1 => ?_)
          refine am_go cd_M_join hc_M_join 55 2 (pc' := 96) (L' := [some (.ref 40), some (.int (nI c)), some (.int (nI (64 * k))), some (.int (nI (64 * (k + 1)))), some (.int (nI s)), some (.int (zI (max (X s) (Y s)))), some (.int 0), none, none, none, none]) (st' := [.int 43, .int (nI c)]) rfl ?_
          refine am_icmp_ne 200 (am_at hc_M_join 57 rfl) (by decide) (fun q2 => ?_) (fun q2 => absurd ((nI_eq (b := 43) (by omega) (by decide)).mp q2) hc)
          rw [← jw_n hc]
          exact done _
      refine am_go cd_M_join hc_M_join 20 2 (pc' := 35) (L' := [some (.ref 40), some (.int (nI c)), some (.int (nI (64 * k))), some (.int (nI (64 * (k + 1)))), some (.int (nI s)), none, none, none, none, none, none]) (st' := [.int 64, .int (nI s)]) rfl ?_
      refine am_icmp_ge 215 (am_at hc_M_join 22 rfl) (by decide) (fun q1 => absurd q1 (nI_ge (a := s) (b := 64) (by omega) (by omega))) (fun q1 => ?_)
      refine am_go cd_M_join hc_M_join 23 1 (pc' := 39) (L' := [some (.ref 40), some (.int (nI c)), some (.int (nI (64 * k))), some (.int (nI (64 * (k + 1)))), some (.int (nI s)), none, none, none, none, none, none]) (st' := [.ref 40]) rfl ?_
      refine am_getf 3 9 k_r3 (am_at hc_M_join 24 rfl) rfl (by decide) rfl (by decide) k_ok3 (Or.inl (tw 315 rfl rfl)) rfl ?_
      refine am_go cd_M_join hc_M_join 25 3 (pc' := 46) (L' := [some (.ref 40), some (.int (nI c)), some (.int (nI (64 * k))), some (.int (nI (64 * (k + 1)))), some (.int (nI s)), none, none, none, none, none, none]) (st' := [.int (nI (64 * k) + nI s), .ref 47]) rfl ?_
      rw [show nI (64 * k) + nI s = nI (64 * k + s) from nI_add _ _]
      refine am_iaload (64 * k + s) (am_at hc_M_join 28 rfl) rfl (Or.inl (by decide)) rfl (by show 64 * k + s < 832; omega) (Nat.le_of_ble_eq_true rfl) ?_
      rw [show am_tb D0 48 s (fun s => zI (jw c X Y s)) 47 (64 * k + s) = zI (X s) from hDx _ hs64]
      refine am_go cd_M_join hc_M_join 29 1 (pc' := 48) (L' := [some (.ref 40), some (.int (nI c)), some (.int (nI (64 * k))), some (.int (nI (64 * (k + 1)))), some (.int (nI s)), none, none, none, none, none, none]) (st' := [.ref 40, .int (zI (X s))]) rfl ?_
      refine am_getf 3 9 k_r3 (am_at hc_M_join 30 rfl) rfl (by decide) rfl (by decide) k_ok3 (Or.inl (tw 315 rfl rfl)) rfl ?_
      refine am_go cd_M_join hc_M_join 31 3 (pc' := 55) (L' := [some (.ref 40), some (.int (nI c)), some (.int (nI (64 * k))), some (.int (nI (64 * (k + 1)))), some (.int (nI s)), none, none, none, none, none, none]) (st' := [.int (nI (64 * (k + 1)) + nI s), .ref 47, .int (zI (X s))]) rfl ?_
      rw [show nI (64 * (k + 1)) + nI s = nI (64 * (k + 1) + s) from nI_add _ _]
      refine am_iaload (64 * (k + 1) + s) (am_at hc_M_join 34 rfl) rfl (Or.inl (by decide)) rfl (by show 64 * (k + 1) + s < 832; omega) (Nat.le_of_ble_eq_true rfl) ?_
      rw [show am_tb D0 48 s (fun s => zI (jw c X Y s)) 47 (64 * (k + 1) + s) = zI (Y s) from hDy _ hs64]
      refine am_icmp_le 71 (am_at hc_M_join 35 rfl) (by decide) (fun q2 => ?_) (fun q2 => ?_)
      · have z := (zI_le (by omega) (by omega) (by omega) (by omega)).mp q2
        refine am_go cd_M_join hc_M_join 43 1 (pc' := 72) (L' := [some (.ref 40), some (.int (nI c)), some (.int (nI (64 * k))), some (.int (nI (64 * (k + 1)))), some (.int (nI s)), none, none, none, none, none, none]) (st' := [.ref 40]) rfl ?_
        refine am_getf 3 9 k_r3 (am_at hc_M_join 44 rfl) rfl (by decide) rfl (by decide) k_ok3 (Or.inl (tw 315 rfl rfl)) rfl ?_
        refine am_go cd_M_join hc_M_join 45 3 (pc' := 79) (L' := [some (.ref 40), some (.int (nI c)), some (.int (nI (64 * k))), some (.int (nI (64 * (k + 1)))), some (.int (nI s)), none, none, none, none, none, none]) (st' := [.int (nI (64 * (k + 1)) + nI s), .ref 47]) rfl ?_
        rw [show nI (64 * (k + 1)) + nI s = nI (64 * (k + 1) + s) from nI_add _ _]
        refine am_iaload (64 * (k + 1) + s) (am_at hc_M_join 48 rfl) rfl (Or.inl (by decide)) rfl (by show 64 * (k + 1) + s < 832; omega) (Nat.le_of_ble_eq_true rfl) ?_
        rw [show am_tb D0 48 s (fun s => zI (jw c X Y s)) 47 (64 * (k + 1) + s) = zI (Y s) from hDy _ hs64]
        refine am_go cd_M_join hc_M_join 49 1 (pc' := 82) (L' := [some (.ref 40), some (.int (nI c)), some (.int (nI (64 * k))), some (.int (nI (64 * (k + 1)))), some (.int (nI s)), some (.int (zI (Y s))), none, none, none, none, none]) (st' := []) rfl ?_
        have h0 := mid
        rw [Int.max_eq_right z] at h0
        exact h0
      · have z : ¬ X s ≤ Y s := fun z => q2 ((zI_le (by omega) (by omega) (by omega) (by omega)).mpr z)
        refine am_go cd_M_join hc_M_join 36 1 (pc' := 60) (L' := [some (.ref 40), some (.int (nI c)), some (.int (nI (64 * k))), some (.int (nI (64 * (k + 1)))), some (.int (nI s)), none, none, none, none, none, none]) (st' := [.ref 40]) rfl ?_
        refine am_getf 3 9 k_r3 (am_at hc_M_join 37 rfl) rfl (by decide) rfl (by decide) k_ok3 (Or.inl (tw 315 rfl rfl)) rfl ?_
        refine am_go cd_M_join hc_M_join 38 3 (pc' := 67) (L' := [some (.ref 40), some (.int (nI c)), some (.int (nI (64 * k))), some (.int (nI (64 * (k + 1)))), some (.int (nI s)), none, none, none, none, none, none]) (st' := [.int (nI (64 * k) + nI s), .ref 47]) rfl ?_
        rw [show nI (64 * k) + nI s = nI (64 * k + s) from nI_add _ _]
        refine am_iaload (64 * k + s) (am_at hc_M_join 41 rfl) rfl (Or.inl (by decide)) rfl (by show 64 * k + s < 832; omega) (Nat.le_of_ble_eq_true rfl) ?_
        rw [show am_tb D0 48 s (fun s => zI (jw c X Y s)) 47 (64 * k + s) = zI (X s) from hDx _ hs64]
        refine am_go cd_M_join hc_M_join 42 1 (pc' := 80) (L' := [some (.ref 40), some (.int (nI c)), some (.int (nI (64 * k))), some (.int (nI (64 * (k + 1)))), some (.int (nI s)), none, none, none, none, none, none]) (st' := [.int (zI (X s))]) rfl ?_
        refine am_go cd_M_join hc_M_join 49 1 (pc' := 82) (L' := [some (.ref 40), some (.int (nI c)), some (.int (nI (64 * k))), some (.int (nI (64 * (k + 1)))), some (.int (nI s)), some (.int (zI (X s))), none, none, none, none, none]) (st' := []) rfl ?_
        have h0 := mid
        rw [Int.max_eq_left (by omega)] at h0
        exact h0
  have h0 := loop 64 0 rfl
  rw [am_tb_0] at h0
  exact h0
theorem rep.at {d : am_D} {ts : List Tb} {ws : List Nat} (h : rep d ts ws) {v : Int32} : rep (am_u d 40 14 v) ts ws := ⟨⟨(am_u_o (by decide)).trans h.1.1, h.1.2.1, h.1.2.2.to (fun j _ => congrFun (am_u_ne 47 (by decide)) j)⟩, (am_u_o (by decide)).trans h.2.1, h.2.2.1, h.2.2.2.to (fun j _ => congrFun (am_u_ne 49 (by decide)) j)⟩
set_option maxRecDepth 100000 in
set_option maxHeartbeats 4000000 in
theorem c_M_reduce {l : Launch} {x : am_X} {e L : Nat} {d : am_D} {all : Bool} {ts ts' : List Tb} {ws ws' : List Nat} (hR : Red all ts ws ts' ws') (hp : rep d ts ws) : cM l x (e + 1) L m_M_reduce [.ref 40, .int (bI all)] d (fun r d' => r = none ∧ rmF d d' ∧ rep d' ts' ws' ∧ d' 40 14 = d 40 14) := by
  refine cM.go (by decide) (by simp [Value.category]) (Nat.le_of_ble_eq_true rfl) ?_
  have loop : ∀ ws ts d0, Red all ts ws ts' ws' → rmF d d0 → rep d0 ts ws → d0 40 14 = d 40 14 → cW l x (e + 1) L m_M_reduce 0 [some (.ref 40), some (.int (bI all))] [] d0 (fun r d' => r = none ∧ rmF d d' ∧ rep d' ts' ws' ∧ d' 40 14 = d 40 14) := by
    intro ws0
    induction ws0 with
    | nil =>
      intro ts0 d0 hR hf hp hat
      obtain ⟨rfl, rfl⟩ := hR
      refine am_go cd_M_reduce hc_M_reduce 0 1 (pc' := 1) (L' := [some (.ref 40), some (.int (bI all))]) (st' := [.ref 40]) rfl ?_
      refine am_getf 3 13 k_r3 (am_at hc_M_reduce 1 rfl) rfl (by decide) rfl (by decide) k_ok3 (Or.inl (tw 319 rfl rfl)) (congrArg Value.int hp.2.1) ?_
      refine am_if_le 69 (am_at hc_M_reduce 2 rfl) (by decide) (fun q1 => ?_) (fun q1 => absurd (by decide) q1)
      exact am_vret (am_at hc_M_reduce 37 rfl) rfl ⟨rfl, rfl, rfl, hf, hp, hat⟩
    | cons c ws1 ih =>
      intro ts0 d0 hR hf hp hat
      have hwl : ws1.length < 40 := by have := hp.2.2.1; simp only [List.length_cons] at this; omega
      have hws : d0 40 13 = nI (ws1.length + 1) := hp.2.1
      have hw0 : d0 49 ws1.length = nI c := hp.2.2.2.1.1
      have hc128 := hp.2.2.2.1.2
      unfold Red at hR
      generalize hwk : ws1.length = k at hwl hws hw0
      have step : (∃ y x r, ts0 = y :: x :: r ∧ Red all (jw c x y :: r) ws1 ts' ws') → cW l x (e + 1) L m_M_reduce 43 [some (.ref 40), some (.int (bI all))] [] d0 (fun r d' => r = none ∧ rmF d d' ∧ rep d' ts' ws' ∧ d' 40 14 = d 40 14) := by
        rintro ⟨Y, X, rs, rfl, hR1⟩
        refine am_go cd_M_reduce hc_M_reduce 23 2 (pc' := 45) (L' := [some (.ref 40), some (.int (bI all))]) (st' := [.ref 40, .ref 40]) rfl ?_
        refine am_getf 3 13 k_r3 (am_at hc_M_reduce 25 rfl) rfl (by decide) rfl (by decide) k_ok3 (Or.inl (tw 319 rfl rfl)) (congrArg Value.int hws) ?_
        refine am_go cd_M_reduce hc_M_reduce 26 2 (pc' := 50) (L' := [some (.ref 40), some (.int (bI all))]) (st' := [.int (nI (k + 1) - 1), .ref 40]) rfl ?_
        rw [show nI (k + 1) - 1 = nI k from nI_pred k]
        refine am_putI 3 13 k_r3 (am_at hc_M_reduce 28 rfl) rfl (by decide) rfl (by decide) k_ok3 (tw 319 rfl rfl) rfl rfl rfl rfl ?_
        have hl : rs.length + 2 ≤ 13 := hp.1.2.1
        have k10 : am_u d0 40 13 (nI k) 40 10 = nI (rs.length + 2) := (am_u_o (by decide)).trans hp.1.1
        have tX := hp.1.2.2.2.1
        have tY := hp.1.2.2.1
        refine am_go cd_M_reduce hc_M_reduce 29 2 (pc' := 55) (L' := [some (.ref 40), some (.int (bI all))]) (st' := [.ref 40, .ref 40]) rfl ?_
        refine am_getf 3 12 k_r3 (am_at hc_M_reduce 31 rfl) rfl (by decide) rfl (by decide) k_ok3 (Or.inl (tw 318 rfl rfl)) rfl ?_
        refine am_go cd_M_reduce hc_M_reduce 32 1 (pc' := 59) (L' := [some (.ref 40), some (.int (bI all))]) (st' := [.ref 40, .ref 49, .ref 40]) rfl ?_
        refine am_getf 3 13 k_r3 (am_at hc_M_reduce 33 rfl) rfl (by decide) rfl (by decide) k_ok3 (Or.inl (tw 319 rfl rfl)) (congrArg Value.int am_u_i) ?_
        refine am_iaload (k) (am_at hc_M_reduce 34 rfl) rfl (Or.inl (by decide)) rfl (by show k < 40; omega) (Nat.le_of_ble_eq_true rfl) ?_
        rw [show am_u d0 40 13 (nI k) 49 k = nI c from (congrFun (am_u_ne 49 (by decide)) k).trans hw0]
        refine cW.callV1 66 [] (st := []) [.int (nI c)] (am_at hc_M_reduce 35 rfl) g_M_join (Or.inl (tw 429 rfl rfl)) (tw 431 rfl rfl) (tp 27 rfl rfl) 3 k_r3 rfl (by decide) rfl rfl rfl rfl (Nat.le_of_ble_eq_true rfl) (c_M_join hc128 k10 hl tX.1 tY.1 (fun s hs => (congrFun (am_u_ne 47 (by decide)) _).trans (tX.2 s hs)) (fun s hs => (congrFun (am_u_ne 47 (by decide)) _).trans (tY.2 s hs))) rfl rfl ?_
        refine am_go cd_M_reduce hc_M_reduce 36 1 (pc' := 0) (L' := [some (.ref 40), some (.int (bI all))]) (st' := []) rfl ?_
        refine ih (jw c X Y :: rs) _ hR1 ((((hf.trans (rmF.f (by decide))).trans (rmF.f (by decide))).trans rmF.s).trans rmF.r) ?_ ?_
        · refine ⟨⟨?_, by simp only [List.length_cons]; omega, ⟨tb_jw tX.1 tY.1, fun s hs => am_tr_in hs⟩, ?_⟩, ?_, by omega, ?_⟩
          · rw [am_tr_ne (by decide), am_tb_ne (by decide), am_u_i]; rfl
          · refine hp.1.2.2.2.2.to (fun j hj => ?_)
            rw [am_tr_out (Or.inl hj), am_tb_ne (by decide), am_u_ne 47 (by decide), am_u_ne 47 (by decide)]
          · rw [am_tr_ne (by decide), am_tb_ne (by decide), am_u_o (by decide), am_u_i, hwk]
          · refine hp.2.2.2.2.to (fun j hj => ?_)
            rw [am_tr_ne (by decide), am_tb_ne (by decide), am_u_ne 49 (by decide), am_u_ne 49 (by decide)]
        · rw [am_tr_ne (by decide), am_tb_ne (by decide), am_u_o (by decide), am_u_o (by decide)]; exact hat
      refine am_go cd_M_reduce hc_M_reduce 0 1 (pc' := 1) (L' := [some (.ref 40), some (.int (bI all))]) (st' := [.ref 40]) rfl ?_
      refine am_getf 3 13 k_r3 (am_at hc_M_reduce 1 rfl) rfl (by decide) rfl (by decide) k_ok3 (Or.inl (tw 319 rfl rfl)) (congrArg Value.int hws) ?_
      refine am_if_le 69 (am_at hc_M_reduce 2 rfl) (by decide) (fun q1 => absurd q1 (nI_nle (by omega) (by omega))) (fun q1 => ?_)
      refine am_go cd_M_reduce hc_M_reduce 3 1 (pc' := 8) (L' := [some (.ref 40), some (.int (bI all))]) (st' := [.ref 40]) rfl ?_
      refine am_getf 3 12 k_r3 (am_at hc_M_reduce 4 rfl) rfl (by decide) rfl (by decide) k_ok3 (Or.inl (tw 318 rfl rfl)) rfl ?_
      refine am_go cd_M_reduce hc_M_reduce 5 1 (pc' := 12) (L' := [some (.ref 40), some (.int (bI all))]) (st' := [.ref 40, .ref 49]) rfl ?_
      refine am_getf 3 13 k_r3 (am_at hc_M_reduce 6 rfl) rfl (by decide) rfl (by decide) k_ok3 (Or.inl (tw 319 rfl rfl)) (congrArg Value.int hws) ?_
      refine am_go cd_M_reduce hc_M_reduce 7 2 (pc' := 17) (L' := [some (.ref 40), some (.int (bI all))]) (st' := [.int (nI (k + 1) - 1), .ref 49]) rfl ?_
      rw [show nI (k + 1) - 1 = nI k from nI_pred k]
      refine am_iaload (k) (am_at hc_M_reduce 9 rfl) rfl (Or.inl (by decide)) rfl (by show k < 40; omega) (Nat.le_of_ble_eq_true rfl) ?_
      rw [show d0 49 k = nI c from hw0]
      refine am_go cd_M_reduce hc_M_reduce 10 1 (pc' := 20) (L' := [some (.ref 40), some (.int (bI all))]) (st' := [.int 43, .int (nI c)]) rfl ?_
      refine am_icmp_eq 43 (am_at hc_M_reduce 11 rfl) (by decide) (fun q2 => ?_) (fun q2 => ?_)
      · have z : c = 43 := (nI_eq (b := 43) (by omega) (by decide)).mp q2
        rw [if_pos (Or.inl z)] at hR
        exact step hR
      · have n43 : ¬ c = 43 := fun z => q2 (by rw [z]; rfl)
        refine am_go cd_M_reduce hc_M_reduce 12 1 (pc' := 24) (L' := [some (.ref 40), some (.int (bI all))]) (st' := [.int (bI all)]) rfl ?_
        cases hall : all with
        | false =>
          subst hall
          simp only [bI_f]
          refine am_if_eq 69 (am_at hc_M_reduce 13 rfl) (by decide) (fun q3 => ?_) (fun q3 => absurd rfl q3)
          rw [if_neg (fun z => z.elim n43 (fun z => by cases z.1))] at hR
          obtain ⟨rfl, rfl⟩ := hR
          exact am_vret (am_at hc_M_reduce 37 rfl) rfl ⟨rfl, rfl, rfl, hf, hp, hat⟩
        | true =>
          subst hall
          refine am_if_eq 69 (am_at hc_M_reduce 13 rfl) (by decide) (fun q3 => absurd q3 (by decide)) (fun q3 => ?_)
          refine am_go cd_M_reduce hc_M_reduce 14 1 (pc' := 28) (L' := [some (.ref 40), some (.int (bI true))]) (st' := [.ref 40]) rfl ?_
          refine am_getf 3 12 k_r3 (am_at hc_M_reduce 15 rfl) rfl (by decide) rfl (by decide) k_ok3 (Or.inl (tw 318 rfl rfl)) rfl ?_
          refine am_go cd_M_reduce hc_M_reduce 16 1 (pc' := 32) (L' := [some (.ref 40), some (.int (bI true))]) (st' := [.ref 40, .ref 49]) rfl ?_
          refine am_getf 3 13 k_r3 (am_at hc_M_reduce 17 rfl) rfl (by decide) rfl (by decide) k_ok3 (Or.inl (tw 319 rfl rfl)) (congrArg Value.int hws) ?_
          refine am_go cd_M_reduce hc_M_reduce 18 2 (pc' := 37) (L' := [some (.ref 40), some (.int (bI true))]) (st' := [.int (nI (k + 1) - 1), .ref 49]) rfl ?_
          rw [show nI (k + 1) - 1 = nI k from nI_pred k]
          refine am_iaload (k) (am_at hc_M_reduce 20 rfl) rfl (Or.inl (by decide)) rfl (by show k < 40; omega) (Nat.le_of_ble_eq_true rfl) ?_
          rw [show d0 49 k = nI c from hw0]
          refine am_go cd_M_reduce hc_M_reduce 21 1 (pc' := 40) (L' := [some (.ref 40), some (.int (bI true))]) (st' := [.int 94, .int (nI c)]) rfl ?_
          refine am_icmp_ne 69 (am_at hc_M_reduce 22 rfl) (by decide) (fun q4 => ?_) (fun q4 => ?_)
          · skip
            rw [if_neg (fun z => z.elim n43 (fun z => q4 (by rw [z.2]; rfl)))] at hR
            obtain ⟨rfl, rfl⟩ := hR
            exact am_vret (am_at hc_M_reduce 37 rfl) rfl ⟨rfl, rfl, rfl, hf, hp, hat⟩
          · have z : c = 94 := (nI_eq (b := 94) (by omega) (by decide)).mp q4
            rw [if_pos (Or.inr ⟨rfl, z⟩)] at hR
            exact step hR
  exact loop ws ts d hR rmF.rf hp rfl
