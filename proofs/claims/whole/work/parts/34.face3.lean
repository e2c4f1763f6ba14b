/-- the items whose owner is v, as a set -/
def sto (ow : Nat → Int32) (v : Int32) : Nat → Nat
  | 0 => 0
  | k + 1 => if ow k = v then sto ow v k ||| 2 ^ k else sto ow v k
theorem sto_lt (ow : Nat → Int32) (v : Int32) : ∀ k, k ≤ 6 → sto ow v k < 2 ^ k
  | 0, _ => Nat.zero_lt_one
  | k + 1, h => by
    have ih := sto_lt ow v k (by omega)
    have e : 2 ^ (k + 1) = 2 ^ k + 2 ^ k := by rw [Nat.pow_succ]; omega
    unfold sto
    split
    · exact Nat.or_lt_two_pow (by omega) (by have := Nat.pow_pos (n := k) (show 0 < 2 by decide); omega)
    · omega
theorem nI_one : ∀ k, k < 6 → (1 : Int32) <<< (nI k &&& 31) = nI (2 ^ k) := by decide +kernel
set_option maxHeartbeats 4000000 in
theorem c_A_setOf {l : Launch} {x : am_X} {e L : Nat} {d : am_D} {cash esc pd pt ow : Nat → Int32} {res : Nat → Int} {wt : Nat → Nat → Int} {T : Nat → Nat} {n : Nat} {se : Int32} {cl : Bool} (h : RA cash esc pd pt ow res wt T n se cl d) (v : Int32) : cM l x e L m_A_setOf [.ref 0, .int v] d (cR (some (.int (nI (sto ow v 6)))) d) := by
  obtain ⟨h1, h2, h3, h4, h5, h6, h7, h8, h9, h10, h11⟩ := id h
  refine cM.go (by decide) (by simp [Value.category]) (Nat.le_of_ble_eq_true rfl) ?_
  refine am_go cd_A_setOf hc_A_setOf 0 4 (pc' := 4) (L' := [some (.ref 0), some (.int v), some (.int 0), some (.int 0)]) (st' := []) rfl ?_
  have loop : ∀ q k, k + q = 6 → cW l x e L m_A_setOf 4 [some (.ref 0), some (.int v), some (.int (nI (sto ow v k))), some (.int (nI k))] [] d (cR (some (.int (nI (sto ow v 6)))) d) := by
    intro q
    induction q with
    | zero =>
      intro k hk
      have hk5 : k = 6 := by omega
      subst hk5
      refine am_go cd_A_setOf hc_A_setOf 4 2 (pc' := 7) (L' := [some (.ref 0), some (.int v), some (.int (nI (sto ow v 6))), some (.int (nI 6))]) (st' := [.int 6, .int (nI 6)]) rfl ?_
      refine am_icmp_ge 32 (am_at hc_A_setOf 6 rfl) (by decide) (fun q1 => ?_) (fun q1 => absurd (nI_le (a := 6) (b := 6) (by omega) (by omega)) q1)
      refine am_go cd_A_setOf hc_A_setOf 21 1 (pc' := 33) (L' := [some (.ref 0), some (.int v), some (.int (nI (sto ow v 6))), some (.int (nI 6))]) (st' := [.int (nI (sto ow v 6))]) rfl ?_
      exact am_iret (am_at hc_A_setOf 22 rfl) rfl rfl (cR_in rfl rfl)
    | succ q ih =>
      intro k hk
      refine am_go cd_A_setOf hc_A_setOf 4 2 (pc' := 7) (L' := [some (.ref 0), some (.int v), some (.int (nI (sto ow v k))), some (.int (nI k))]) (st' := [.int 6, .int (nI k)]) rfl ?_
      refine am_icmp_ge 32 (am_at hc_A_setOf 6 rfl) (by decide) (fun q1 => absurd q1 (nI_ge (a := k) (b := 6) (by omega) (by omega))) (fun q1 => ?_)
      refine am_go cd_A_setOf hc_A_setOf 7 1 (pc' := 11) (L' := [some (.ref 0), some (.int v), some (.int (nI (sto ow v k))), some (.int (nI k))]) (st' := [.ref 0]) rfl ?_
      refine am_getf 0 3 k_r0 (am_at hc_A_setOf 8 rfl) rfl (by decide) rfl (by decide) k_ok0 (Or.inl (tw 78 rfl rfl)) rfl ?_
      refine am_go cd_A_setOf hc_A_setOf 9 1 (pc' := 15) (L' := [some (.ref 0), some (.int v), some (.int (nI (sto ow v k))), some (.int (nI k))]) (st' := [.int (nI k), .ref 4]) rfl ?_
      refine am_iaload (k) (am_at hc_A_setOf 10 rfl) rfl (Or.inl (by decide)) rfl (by show k < 6; omega) (Nat.le_of_ble_eq_true rfl) ?_
      rw [show d 4 k = ow k from h5 k (by omega)]
      refine am_go cd_A_setOf hc_A_setOf 11 1 (pc' := 17) (L' := [some (.ref 0), some (.int v), some (.int (nI (sto ow v k))), some (.int (nI k))]) (st' := [.int v, .int (ow k)]) rfl ?_
      refine am_icmp_ne 26 (am_at hc_A_setOf 12 rfl) (by decide) (fun q2 => ?_) (fun q2 => ?_)
      · have e1 : sto ow v (k + 1) = sto ow v k := by show (if ow k = v then _ else _) = _; rw [if_neg q2]
        refine am_go cd_A_setOf hc_A_setOf 19 2 (pc' := 4) (L' := [some (.ref 0), some (.int v), some (.int (nI (sto ow v k))), some (.int (nI k + 1))]) (st' := []) rfl ?_
        rw [nI_1, ← e1]
        exact ih (k + 1) (by omega)
      · have e1 : sto ow v (k + 1) = sto ow v k ||| 2 ^ k := by show (if ow k = v then _ else _) = _; rw [if_pos q2]
        refine am_go cd_A_setOf hc_A_setOf 13 4 (pc' := 24) (L' := [some (.ref 0), some (.int v), some (.int (nI (sto ow v k))), some (.int (nI k))]) (st' := [.int (1 <<< (nI k &&& 31)), .int (nI (sto ow v k))]) rfl ?_
        rw [nI_one k (by omega)]
        refine am_go cd_A_setOf hc_A_setOf 17 1 (pc' := 25) (L' := [some (.ref 0), some (.int v), some (.int (nI (sto ow v k))), some (.int (nI k))]) (st' := [.int (nI (sto ow v k) ||| nI (2 ^ k))]) rfl ?_
        rw [show nI (sto ow v k) ||| nI (2 ^ k) = nI (sto ow v (k + 1)) from by rw [e1]; exact nI_or _ _]
        refine am_go cd_A_setOf hc_A_setOf 18 3 (pc' := 4) (L' := [some (.ref 0), some (.int v), some (.int (nI (sto ow v (k + 1)))), some (.int (nI k + 1))]) (st' := []) rfl ?_
        rw [nI_1]
        exact ih (k + 1) (by omega)
  exact loop 6 0 rfl
/-- what bidder b pays, the owners and the greatest welfare given -/
def payb (wt : Nat → Nat → Int) (res : Nat → Int) (ow : Nat → Int32) (W : Int) (b : Nat) : Int32 := zI (wf wt res b - W + wt b (sto ow (nI b) 6))
set_option maxHeartbeats 4000000 in
theorem c_A_settle {l : Launch} {x : am_X} {e L : Nat} {d : am_D} {cash esc pd pt ow : Nat → Int32} {res : Nat → Int} {wt : Nat → Nat → Int} {T : Nat → Nat} {n : Nat} {se : Int32} {cl : Bool} (h : RA cash esc pd pt ow res wt T n se cl d) {b : Nat} (hb5 : b < 5) (W : Int) : cM l x (e + 3) L m_A_settle [.ref 0, .int (nI b), .int (zI W)] d (fun r d' => r = none ∧ RA (upd cash b (cash b + (esc b - payb wt res ow W b))) (upd esc b 0) (upd pd b (payb wt res ow W b)) pt ow res wt T n (se + payb wt res ow W b) cl d' ∧ fA d d') := by
  obtain ⟨h1, h2, h3, h4, h5, h6, h7, h8, h9, h10, h11⟩ := id h
  refine cM.go (by decide) (by simp [Value.category]) (Nat.le_of_ble_eq_true rfl) ?_
  have hwt : ∀ b, b < 5 → tb_ok (wt b) := fun b hb => (h7 b hb).1
  have hres : ∀ j, j < 6 → 0 ≤ res j ∧ res j ≤ 999 := fun j hj => (h6 j hj).2
  have hbz : nI b = zI (b : Int) := nI_zI b
  refine am_go cd_A_settle hc_A_settle 0 1 (pc' := 1) (L' := [some (.ref 0), some (.int (nI b)), some (.int (zI W)), none, none]) (st' := [.ref 0]) rfl ?_
  refine am_getf 0 8 k_r0 (am_at hc_A_settle 1 rfl) rfl (by decide) rfl (by decide) k_ok0 (Or.inl (tw 83 rfl rfl)) rfl ?_
  refine am_go cd_A_settle hc_A_settle 2 1 (pc' := 5) (L' := [some (.ref 0), some (.int (nI b)), some (.int (zI W)), none, none]) (st' := [.ref 0, .ref 36]) rfl ?_
  refine am_getf 0 6 k_r0 (am_at hc_A_settle 3 rfl) rfl (by decide) rfl (by decide) k_ok0 (Or.inl (tw 81 rfl rfl)) rfl ?_
  refine am_go cd_A_settle hc_A_settle 4 1 (pc' := 9) (L' := [some (.ref 0), some (.int (nI b)), some (.int (zI W)), none, none]) (st' := [.ref 0, .ref 7, .ref 36]) rfl ?_
  refine am_getf 0 2 k_r0 (am_at hc_A_settle 5 rfl) rfl (by decide) rfl (by decide) k_ok0 (Or.inl (tw 77 rfl rfl)) rfl ?_
  refine am_go cd_A_settle hc_A_settle 6 1 (pc' := 13) (L' := [some (.ref 0), some (.int (nI b)), some (.int (zI W)), none, none]) (st' := [.int (nI b), .ref 3, .ref 7, .ref 36]) rfl ?_
  rw [hbz]
  refine cW.callV (st := []) [.ref 7, .ref 3, .int (zI b)] (am_at hc_A_settle 7 rfl) g_S_greatestScore (Or.inl (tw 243 rfl rfl)) (tw 244 rfl rfl) (tw 245 rfl rfl) 2 k_r2 rfl (by decide) rfl rfl rfl rfl (Nat.le_of_ble_eq_true rfl) (c_S_greatestScore wt res (b) (by omega) (by omega) (fun b hb s hs => ((h).2.2.2.2.2.2.1 b hb).2 s hs) (fun b hb => ((h).2.2.2.2.2.2.1 b hb).1) (fun j hj => ((h).2.2.2.2.2.1 j hj).1) (fun j hj => ((h).2.2.2.2.2.1 j hj).2) (h).2.2.2.2.2.2.2.2.2.2) ?_
  rintro _ d1 ⟨rfl, ho⟩
  show cW _ _ (e + 3) _ m_A_settle 16 [some (.ref 0), some (.int (zI b)), some (.int (zI W)), none, none] [.int (zI (gs wt res (b) 5 63))] _ _
  have hA : RA cash esc pd pt ow res wt T n se cl d1 := h.off (fun j _ => congrFun (ho 0 (by decide) (by decide)) j) (fun a ha => ho a (by omega) (by omega)) (congrFun (ho 13 (by decide) (by decide)) 1)
  have hf1 : fA d d1 := fun a ha => ho a (by omega) (by omega)
  have hgb := gs63 hwt hres (b : Int)
  refine cW.callS1 19 [.int (zI (wf wt res b))] (st := []) [.int (zI (gs wt res (b) 5 63))] (am_at hc_A_settle 8 rfl) g_S_welfareIn (Or.inl (tw 253 rfl rfl)) (tw 254 rfl rfl) rfl rfl (Nat.le_of_ble_eq_true rfl) (c_S_welfareIn (gs wt res b 5 63) (by omega) (by omega)) rfl rfl ?_
  rw [← hbz]
  have hsh := SH_w L b hb5
  refine am_go cd_A_settle hc_A_settle 9 4 (pc' := 23) (L' := [some (.ref 0), some (.int (nI b)), some (.int (zI W)), some (.int (zI (wf wt res b))), none]) (st' := [.int (zI (wf wt res b) - zI W)]) rfl ?_
  rw [show zI (wf wt res b) - zI W = zI (wf wt res b - W) from zI_sub _ _]
  refine am_go cd_A_settle hc_A_settle 13 1 (pc' := 24) (L' := [some (.ref 0), some (.int (nI b)), some (.int (zI W)), some (.int (zI (wf wt res b))), none]) (st' := [.ref 0, .int (zI (wf wt res b - W))]) rfl ?_
  refine am_getf 0 6 k_r0 (am_at hc_A_settle 14 rfl) rfl (by decide) rfl (by decide) k_ok0 (Or.inl (tw 81 rfl rfl)) rfl ?_
  refine am_go cd_A_settle hc_A_settle 15 1 (pc' := 28) (L' := [some (.ref 0), some (.int (nI b)), some (.int (zI W)), some (.int (zI (wf wt res b))), none]) (st' := [.int (nI b), .ref 7, .int (zI (wf wt res b - W))]) rfl ?_
  refine am_aaload (b) (8 + b) (am_at hc_A_settle 16 rfl) rfl (by decide) rfl (by show b < 5; omega) (Nat.le_of_ble_eq_true rfl) (if_pos hb5) ?_
  refine am_go cd_A_settle hc_A_settle 17 2 (pc' := 31) (L' := [some (.ref 0), some (.int (nI b)), some (.int (zI W)), some (.int (zI (wf wt res b))), none]) (st' := [.int (nI b), .ref 0, .ref (8 + b), .int (zI (wf wt res b - W))]) rfl ?_
  refine cW.callV1 34 [.int (nI (sto ow (nI b) 6)), .ref (8 + b), .int (zI (wf wt res b - W))] (st := [.ref (8 + b), .int (zI (wf wt res b - W))]) [.int (nI b)] (am_at hc_A_settle 19 rfl) g_A_setOf (Or.inl (tw 268 rfl rfl)) (tw 270 rfl rfl) (tp 17 rfl rfl) 0 k_r0 rfl (by decide) rfl rfl rfl rfl (Nat.le_of_ble_eq_true rfl) (c_A_setOf hA (nI b)) rfl rfl ?_
  have hst := sto_lt ow (nI b) 6 (by decide)
  refine am_iaload (sto ow (nI b) 6) (am_at hc_A_settle 20 rfl) (by rw [hsh]) (Or.inl (by omega)) rfl (by rw [hsh]; exact hst) (by rw [hsh]; decide) ?_
  rw [show d1 (8 + b) (sto ow (nI b) 6) = zI (wt b (sto ow (nI b) 6)) from (hA.2.2.2.2.2.2.1 b hb5).2 _ hst]
  refine am_go cd_A_settle hc_A_settle 21 1 (pc' := 36) (L' := [some (.ref 0), some (.int (nI b)), some (.int (zI W)), some (.int (zI (wf wt res b))), none]) (st' := [.int (zI (wf wt res b - W) + zI (wt b (sto ow (nI b) 6)))]) rfl ?_
  rw [show zI (wf wt res b - W) + zI (wt b (sto ow (nI b) 6)) = payb wt res ow W b from zI_add _ _]
  refine am_go cd_A_settle hc_A_settle 22 2 (pc' := 39) (L' := [some (.ref 0), some (.int (nI b)), some (.int (zI W)), some (.int (zI (wf wt res b))), some (.int (payb wt res ow W b))]) (st' := [.ref 0]) rfl ?_
  refine am_getf 0 4 k_r0 (am_at hc_A_settle 24 rfl) rfl (by decide) rfl (by decide) k_ok0 (Or.inl (tw 79 rfl rfl)) rfl ?_
  refine am_go cd_A_settle hc_A_settle 25 2 (pc' := 45) (L' := [some (.ref 0), some (.int (nI b)), some (.int (zI W)), some (.int (zI (wf wt res b))), some (.int (payb wt res ow W b))]) (st' := [.int (payb wt res ow W b), .int (nI b), .ref 5]) rfl ?_
  refine am_iastore (b) (am_at hc_A_settle 27 rfl) rfl (by decide) rfl (by show b < 5; omega) (Nat.le_of_ble_eq_true rfl) ?_
  have hA2 := hA.pd (k := b) (v := payb wt res ow W b)
  have hf2 : fA d (am_u d1 5 b (payb wt res ow W b)) := hf1.tr (fA.u (by decide))
  generalize am_u d1 5 b (payb wt res ow W b) = d2 at hA2 hf2 ⊢
  refine am_go cd_A_settle hc_A_settle 28 1 (pc' := 47) (L' := [some (.ref 0), some (.int (nI b)), some (.int (zI W)), some (.int (zI (wf wt res b))), some (.int (payb wt res ow W b))]) (st' := [.ref 0]) rfl ?_
  refine am_getf 0 1 k_r0 (am_at hc_A_settle 29 rfl) rfl (by decide) rfl (by decide) k_ok0 (Or.inl (tw 76 rfl rfl)) rfl ?_
  refine am_go cd_A_settle hc_A_settle 30 2 (pc' := 52) (L' := [some (.ref 0), some (.int (nI b)), some (.int (zI W)), some (.int (zI (wf wt res b))), some (.int (payb wt res ow W b))]) (st' := [.int (nI b), .ref 2, .int (nI b), .ref 2]) rfl ?_
  refine am_iaload (b) (am_at hc_A_settle 32 rfl) rfl (Or.inl (by decide)) rfl (by show b < 5; omega) (Nat.le_of_ble_eq_true rfl) ?_
  rw [show d2 2 b = esc b from hA2.2.1 b hb5]
  refine am_go cd_A_settle hc_A_settle 33 2 (pc' := 56) (L' := [some (.ref 0), some (.int (nI b)), some (.int (zI W)), some (.int (zI (wf wt res b))), some (.int (payb wt res ow W b))]) (st' := [.int (esc b - payb wt res ow W b), .int (nI b), .ref 2]) rfl ?_
  refine am_iastore (b) (am_at hc_A_settle 35 rfl) rfl (by decide) rfl (by show b < 5; omega) (Nat.le_of_ble_eq_true rfl) ?_
  have hA3 := hA2.esc (k := b) (v := esc b - payb wt res ow W b)
  have hf3 : fA d (am_u d2 2 b (esc b - payb wt res ow W b)) := hf2.tr (fA.u (by decide))
  generalize am_u d2 2 b (esc b - payb wt res ow W b) = d3 at hA3 hf3 ⊢
  refine am_go cd_A_settle hc_A_settle 36 2 (pc' := 59) (L' := [some (.ref 0), some (.int (nI b)), some (.int (zI W)), some (.int (zI (wf wt res b))), some (.int (payb wt res ow W b))]) (st' := [.ref 0, .ref 0]) rfl ?_
  refine am_getf 0 9 k_r0 (am_at hc_A_settle 38 rfl) rfl (by decide) rfl (by decide) k_ok0 (Or.inl (tw 84 rfl rfl)) (congrArg Value.int hA3.2.2.2.2.2.2.2.2.1) ?_
  refine am_go cd_A_settle hc_A_settle 39 2 (pc' := 65) (L' := [some (.ref 0), some (.int (nI b)), some (.int (zI W)), some (.int (zI (wf wt res b))), some (.int (payb wt res ow W b))]) (st' := [.int (se + payb wt res ow W b), .ref 0]) rfl ?_
  refine am_putI 0 9 k_r0 (am_at hc_A_settle 41 rfl) rfl (by decide) rfl (by decide) k_ok0 (tw 84 rfl rfl) rfl rfl rfl rfl ?_
  have hA4 := hA3.se (v := se + payb wt res ow W b)
  have hf4 : fA d (am_u d3 0 9 (se + payb wt res ow W b)) := hf3.tr (fA.u (by decide))
  generalize am_u d3 0 9 (se + payb wt res ow W b) = d4 at hA4 hf4 ⊢
  refine am_go cd_A_settle hc_A_settle 42 2 (pc' := 70) (L' := [some (.ref 0), some (.int (nI b)), some (.int (zI W)), some (.int (zI (wf wt res b))), some (.int (payb wt res ow W b))]) (st' := [.int (nI b), .ref 0]) rfl ?_
  refine cW.callV (st := []) [.int (nI b)] (am_at hc_A_settle 44 rfl) g_A_giveBack (Or.inl (tw 133 rfl rfl)) (tw 135 rfl rfl) (tp 1 rfl rfl) 0 k_r0 rfl (by decide) rfl rfl rfl rfl (Nat.le_of_ble_eq_true rfl) (c_A_giveBack hA4 hb5) ?_
  rintro _ d5 ⟨rfl, hA5, hf5⟩
  show cW _ _ (e + 3) _ m_A_settle 73 [some (.ref 0), some (.int (nI b)), some (.int (zI W)), some (.int (zI (wf wt res b))), some (.int (payb wt res ow W b))] [] _ _
  refine am_vret (am_at hc_A_settle 45 rfl) rfl ⟨rfl, rfl, rfl, ?_, hf4.tr hf5⟩
  have e1 : upd esc b (esc b - payb wt res ow W b) b = esc b - payb wt res ow W b := by unfold upd; rw [if_pos rfl]
  have e2 : upd (upd esc b (esc b - payb wt res ow W b)) b 0 = upd esc b 0 := by funext j; unfold upd; by_cases z : j = b <;> simp [z]
  rw [e1, e2] at hA5
  exact hA5
/-- the best allocation's number, its owners, the payments' sum -/
def bst (wt : Nat → Nat → Int) (res : Nat → Int) : Nat := (wf wt res (-1) * 46656 - gs wt res (-1) 5 63).toNat
def bow (wt : Nat → Nat → Int) (res : Nat → Int) : Nat → Int32 := fun j => zI (((bst wt res / 6 ^ (5 - j) % 6 : Nat) : Int) - 1)
def pays (p : Nat → Int32) (se : Int32) : Nat → Int32
  | 0 => se
  | k + 1 => pays p se k + p k
def bpay (wt : Nat → Nat → Int) (res : Nat → Int) : Nat → Int32 := payb wt res (bow wt res) (wf wt res (-1))
theorem bst_b {wt : Nat → Nat → Int} {res : Nat → Int} : bst wt res < 46656 ∧ (gs wt res (-1) 5 63 + 46655) / 46656 * 46656 - gs wt res (-1) 5 63 = bst wt res := by
  unfold bst wf
  omega
set_option maxHeartbeats 4000000 in
theorem c_A_close {l : Launch} {x : am_X} {e L : Nat} {d : am_D} {cash esc pd pt ow : Nat → Int32} {res : Nat → Int} {wt : Nat → Nat → Int} {T : Nat → Nat} {n : Nat} {se : Int32} {cl : Bool} (h : RA cash esc pd pt ow res wt T n se cl d) : cM l x (e + 4) L m_A_close [.ref 0] d (fun r d' => r = some (.int (if cl = false then zI (wf wt res (-1)) else -2)) ∧ RA (if cl = false then fun b => if b < 5 then cash b + (esc b - bpay wt res b) else cash b else cash) (if cl = false then fun b => if b < 5 then 0 else esc b else esc) (if cl = false then fun b => if b < 5 then bpay wt res b else pd b else pd) pt (if cl = false then bow wt res else ow) res wt T n (if cl = false then pays (bpay wt res) se 5 else se) true d' ∧ fA d d') := by
  obtain ⟨h1, h2, h3, h4, h5, h6, h7, h8, h9, h10, h11⟩ := id h
  refine cM.go (by decide) (by simp [Value.category]) (Nat.le_of_ble_eq_true rfl) ?_
  have hwt : ∀ b, b < 5 → tb_ok (wt b) := fun b hb => (h7 b hb).1
  have hres : ∀ j, j < 6 → 0 ≤ res j ∧ res j ≤ 999 := fun j hj => (h6 j hj).2
  refine am_go cd_A_close hc_A_close 0 1 (pc' := 1) (L' := [some (.ref 0), none, none, none]) (st' := [.ref 0]) rfl ?_
  refine am_getf 0 10 k_r0 (am_at hc_A_close 1 rfl) rfl (by decide) rfl (by decide) k_ok0 (Or.inl (tw 85 rfl rfl)) (congrArg Value.int h10) ?_
  cases cl with
  | true =>
    simp only [bI_t]
    simp only [Bool.true_eq_false, if_false]
    refine am_if_eq 10 (am_at hc_A_close 2 rfl) (by decide) (fun q0 => absurd q0 (by decide)) (fun q0 => ?_)
    refine am_go cd_A_close hc_A_close 3 1 (pc' := 9) (L' := [some (.ref 0), none, none, none]) (st' := [.int (-2)]) rfl ?_
    exact am_iret (am_at hc_A_close 4 rfl) rfl rfl ⟨rfl, rfl, rfl, h, fA.rf⟩
  | false =>
    simp only [bI_f]
    simp only [if_true]
    refine am_if_eq 10 (am_at hc_A_close 2 rfl) (by decide) (fun q0 => ?_) (fun q0 => absurd rfl q0)
    refine am_go cd_A_close hc_A_close 5 1 (pc' := 11) (L' := [some (.ref 0), none, none, none]) (st' := [.ref 0]) rfl ?_
    refine am_getf 0 8 k_r0 (am_at hc_A_close 6 rfl) rfl (by decide) rfl (by decide) k_ok0 (Or.inl (tw 83 rfl rfl)) rfl ?_
    refine am_go cd_A_close hc_A_close 7 1 (pc' := 15) (L' := [some (.ref 0), none, none, none]) (st' := [.ref 0, .ref 36]) rfl ?_
    refine am_getf 0 6 k_r0 (am_at hc_A_close 8 rfl) rfl (by decide) rfl (by decide) k_ok0 (Or.inl (tw 81 rfl rfl)) rfl ?_
    refine am_go cd_A_close hc_A_close 9 1 (pc' := 19) (L' := [some (.ref 0), none, none, none]) (st' := [.ref 0, .ref 7, .ref 36]) rfl ?_
    refine am_getf 0 2 k_r0 (am_at hc_A_close 10 rfl) rfl (by decide) rfl (by decide) k_ok0 (Or.inl (tw 77 rfl rfl)) rfl ?_
    refine am_go cd_A_close hc_A_close 11 1 (pc' := 23) (L' := [some (.ref 0), none, none, none]) (st' := [.int (-1), .ref 3, .ref 7, .ref 36]) rfl ?_
    refine cW.callV (st := []) [.ref 7, .ref 3, .int (-1)] (am_at hc_A_close 12 rfl) g_S_greatestScore (Or.inl (tw 243 rfl rfl)) (tw 244 rfl rfl) (tw 245 rfl rfl) 2 k_r2 rfl (by decide) rfl rfl rfl rfl (Nat.le_of_ble_eq_true rfl) (c_S_greatestScore wt res (-1) (by omega) (by omega) (fun b hb s hs => ((h).2.2.2.2.2.2.1 b hb).2 s hs) (fun b hb => ((h).2.2.2.2.2.2.1 b hb).1) (fun j hj => ((h).2.2.2.2.2.1 j hj).1) (fun j hj => ((h).2.2.2.2.2.1 j hj).2) (h).2.2.2.2.2.2.2.2.2.2) ?_
    rintro _ d1 ⟨rfl, ho⟩
    show cW _ _ (e + 4) _ m_A_close 26 [some (.ref 0), none, none, none] [.int (zI (gs wt res (-1) 5 63))] _ _
    have hA : RA cash esc pd pt ow res wt T n se false d1 := h.off (fun j _ => congrFun (ho 0 (by decide) (by decide)) j) (fun a ha => ho a (by omega) (by omega)) (congrFun (ho 13 (by decide) (by decide)) 1)
    have hf1 : fA d d1 := fun a ha => ho a (by omega) (by omega)
    have hgb := gs63 hwt hres (-1)
    have hbst := bst_b (wt := wt) (res := res)
    refine am_go cd_A_close hc_A_close 13 3 (pc' := 29) (L' := [some (.ref 0), some (.int (zI (gs wt res (-1) 5 63))), none, none]) (st' := [.ref 0, .int (zI (gs wt res (-1) 5 63))]) rfl ?_
    refine am_getf 0 3 k_r0 (am_at hc_A_close 16 rfl) rfl (by decide) rfl (by decide) k_ok0 (Or.inl (tw 78 rfl rfl)) rfl ?_
    refine cW.callS1 35 [] (st := []) [.int (zI (gs wt res (-1) 5 63)), .ref 4] (am_at hc_A_close 17 rfl) g_S_writeOwners (Or.inl (tw 260 rfl rfl)) (tw 261 rfl rfl) rfl rfl (Nat.le_of_ble_eq_true rfl) (c_S_writeOwners (gs wt res (-1) 5 63) (bst wt res) hbst.1 (by omega) (by omega) hbst.2) rfl rfl ?_
    have hA2 : RA cash esc pd pt (bow wt res) res wt T n se false (am_tb d1 4 6 (fun j => zI (((bst wt res / 6 ^ (5 - j) % 6 : Nat) : Int) - 1))) := hA.ow
    have hf2 : fA d (am_tb d1 4 6 (fun j => zI (((bst wt res / 6 ^ (5 - j) % 6 : Nat) : Int) - 1))) := hf1.tr (fA.t (by decide))
    generalize am_tb d1 4 6 (fun j => zI (((bst wt res / 6 ^ (5 - j) % 6 : Nat) : Int) - 1)) = d2 at hA2 hf2 ⊢
    refine am_go cd_A_close hc_A_close 18 1 (pc' := 36) (L' := [some (.ref 0), some (.int (zI (gs wt res (-1) 5 63))), none, none]) (st' := [.int (zI (gs wt res (-1) 5 63))]) rfl ?_
    refine cW.callS1 39 [.int (zI (wf wt res (-1)))] (st := []) [.int (zI (gs wt res (-1) 5 63))] (am_at hc_A_close 19 rfl) g_S_welfareIn (Or.inl (tw 253 rfl rfl)) (tw 254 rfl rfl) rfl rfl (Nat.le_of_ble_eq_true rfl) (c_S_welfareIn (gs wt res (-1) 5 63) (by omega) (by omega)) rfl rfl ?_
    refine am_go cd_A_close hc_A_close 20 3 (pc' := 42) (L' := [some (.ref 0), some (.int (zI (gs wt res (-1) 5 63))), some (.int (zI (wf wt res (-1)))), some (.int 0)]) (st' := []) rfl ?_
    have loop : ∀ q k d3, k + q = 5 → RA (fun b => if b < k then cash b + (esc b - bpay wt res b) else cash b) (fun b => if b < k then 0 else esc b) (fun b => if b < k then bpay wt res b else pd b) pt (bow wt res) res wt T n (pays (bpay wt res) se k) false d3 → fA d d3 → cW l x (e + 4) L m_A_close 42 [some (.ref 0), some (.int (zI (gs wt res (-1) 5 63))), some (.int (zI (wf wt res (-1)))), some (.int (nI k))] [] d3 (fun r d' => r = some (.int (zI (wf wt res (-1)))) ∧ RA (fun b => if b < 5 then cash b + (esc b - bpay wt res b) else cash b) (fun b => if b < 5 then 0 else esc b) (fun b => if b < 5 then bpay wt res b else pd b) pt (bow wt res) res wt T n (pays (bpay wt res) se 5) true d' ∧ fA d d') := by
      intro q
      induction q with
      | zero =>
        intro k d3 hk hA3 hf3
        have hk5 : k = 5 := by omega
        subst hk5
        refine am_go cd_A_close hc_A_close 23 2 (pc' := 44) (L' := [some (.ref 0), some (.int (zI (gs wt res (-1) 5 63))), some (.int (zI (wf wt res (-1)))), some (.int (nI 5))]) (st' := [.int 5, .int (nI 5)]) rfl ?_
        refine am_icmp_ge 59 (am_at hc_A_close 25 rfl) (by decide) (fun q1 => ?_) (fun q1 => absurd (nI_le (a := 5) (b := 5) (by omega) (by omega)) q1)
        refine am_go cd_A_close hc_A_close 32 2 (pc' := 61) (L' := [some (.ref 0), some (.int (zI (gs wt res (-1) 5 63))), some (.int (zI (wf wt res (-1)))), some (.int (nI 5))]) (st' := [.int 1, .ref 0]) rfl ?_
        refine am_putI 0 10 k_r0 (am_at hc_A_close 34 rfl) rfl (by decide) rfl (by decide) k_ok0 (tw 85 rfl rfl) rfl rfl rfl rfl ?_
        refine am_go cd_A_close hc_A_close 35 1 (pc' := 65) (L' := [some (.ref 0), some (.int (zI (gs wt res (-1) 5 63))), some (.int (zI (wf wt res (-1)))), some (.int (nI 5))]) (st' := [.int (zI (wf wt res (-1)))]) rfl ?_
        exact am_iret (am_at hc_A_close 36 rfl) rfl rfl ⟨rfl, rfl, rfl, hA3.cl (c := true), hf3.tr (fA.u (by decide))⟩
      | succ q ih =>
        intro k d3 hk hA3 hf3
        refine am_go cd_A_close hc_A_close 23 2 (pc' := 44) (L' := [some (.ref 0), some (.int (zI (gs wt res (-1) 5 63))), some (.int (zI (wf wt res (-1)))), some (.int (nI k))]) (st' := [.int 5, .int (nI k)]) rfl ?_
        refine am_icmp_ge 59 (am_at hc_A_close 25 rfl) (by decide) (fun q1 => absurd q1 (nI_ge (a := k) (b := 5) (by omega) (by omega))) (fun q1 => ?_)
        refine am_go cd_A_close hc_A_close 26 3 (pc' := 50) (L' := [some (.ref 0), some (.int (zI (gs wt res (-1) 5 63))), some (.int (zI (wf wt res (-1)))), some (.int (nI k))]) (st' := [.int (zI (wf wt res (-1))), .int (nI k), .ref 0]) rfl ?_
        refine cW.callV (st := []) [.int (nI k), .int (zI (wf wt res (-1)))] (am_at hc_A_close 29 rfl) g_A_settle (Or.inl (tw 264 rfl rfl)) (tw 266 rfl rfl) (tp 16 rfl rfl) 0 k_r0 rfl (by decide) rfl rfl rfl rfl (Nat.le_of_ble_eq_true rfl) (c_A_settle hA3 (by omega : k < 5) (wf wt res (-1))) ?_
        rintro _ d4 ⟨rfl, hA4, hf4⟩
        show cW _ _ (e + 4) _ m_A_close 53 [some (.ref 0), some (.int (zI (gs wt res (-1) 5 63))), some (.int (zI (wf wt res (-1)))), some (.int (nI k))] [] _ _
        refine am_go cd_A_close hc_A_close 30 2 (pc' := 42) (L' := [some (.ref 0), some (.int (zI (gs wt res (-1) 5 63))), some (.int (zI (wf wt res (-1)))), some (.int (nI k + 1))]) (st' := []) rfl ?_
        rw [nI_1]
        refine ih (k + 1) d4 (by omega) ?_ (hf3.tr hf4)
        have e0 : payb wt res (bow wt res) (wf wt res (-1)) k = bpay wt res k := rfl
        rw [e0] at hA4
        have e1 : upd (fun b => if b < k then cash b + (esc b - bpay wt res b) else cash b) k ((fun b => if b < k then cash b + (esc b - bpay wt res b) else cash b) k + ((fun b => if b < k then 0 else esc b) k - bpay wt res k)) = (fun b => if b < (k + 1) then cash b + (esc b - bpay wt res b) else cash b) := by
          funext b; unfold upd; by_cases z : b = k; · simp [z]
          by_cases z2 : b < k
          · simp [z, z2, show b < k + 1 by omega]
          · simp [z, z2, show ¬ b < k + 1 by omega]
        have e2 : upd (fun b => if b < k then 0 else esc b) k 0 = (fun b => if b < (k + 1) then 0 else esc b) := by
          funext b; unfold upd; by_cases z : b = k; · simp [z]
          by_cases z2 : b < k
          · simp [z, z2, show b < k + 1 by omega]
          · simp [z, z2, show ¬ b < k + 1 by omega]
        have e3 : upd (fun b => if b < k then bpay wt res b else pd b) k (bpay wt res k) = (fun b => if b < (k + 1) then bpay wt res b else pd b) := by
          funext b; unfold upd; by_cases z : b = k; · simp [z]
          by_cases z2 : b < k
          · simp [z, z2, show b < k + 1 by omega]
          · simp [z, z2, show ¬ b < k + 1 by omega]
        rw [e1, e2, e3] at hA4
        exact hA4
    exact loop 5 0 d2 rfl (by simp only [Nat.not_lt_zero, if_false]; exact hA2) hf2
