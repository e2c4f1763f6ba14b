/-! the class's greatest score is the reference's best allocation -/
def mkS (c : Nat → Bool) : Nat := (if c 0 = true then 1 else 0) + (if c 1 = true then 2 else 0) + (if c 2 = true then 4 else 0) + (if c 3 = true then 8 else 0) + (if c 4 = true then 16 else 0) + (if c 5 = true then 32 else 0)
def mk6 (c0 c1 c2 c3 c4 c5 : Bool) : Nat := (if c0 = true then 1 else 0) + (if c1 = true then 2 else 0) + (if c2 = true then 4 else 0) + (if c3 = true then 8 else 0) + (if c4 = true then 16 else 0) + (if c5 = true then 32 else 0)
theorem mkS_6 (c : Nat → Bool) : mkS c = mk6 (c 0) (c 1) (c 2) (c 3) (c 4) (c 5) := rfl
theorem mk6_lt : ∀ c0 c1 c2 c3 c4 c5 : Bool, mk6 c0 c1 c2 c3 c4 c5 < 64 := by decide +kernel
theorem mkS_lt (c : Nat → Bool) : mkS c < 64 := mk6_lt _ _ _ _ _ _
theorem mk6_bit : ∀ c0 c1 c2 c3 c4 c5 : Bool, (mk6 c0 c1 c2 c3 c4 c5).testBit 0 = c0 ∧ (mk6 c0 c1 c2 c3 c4 c5).testBit 1 = c1 ∧ (mk6 c0 c1 c2 c3 c4 c5).testBit 2 = c2 ∧ (mk6 c0 c1 c2 c3 c4 c5).testBit 3 = c3 ∧ (mk6 c0 c1 c2 c3 c4 c5).testBit 4 = c4 ∧ (mk6 c0 c1 c2 c3 c4 c5).testBit 5 = c5 := by decide +kernel
theorem mk6_or : ∀ c0 c1 c2 c3 c4 c5 : Bool, (let g5 := if c5 = true then 0 ||| 2 ^ 5 else 0; let g4 := if c4 = true then g5 ||| 2 ^ 4 else g5; let g3 := if c3 = true then g4 ||| 2 ^ 3 else g4; let g2 := if c2 = true then g3 ||| 2 ^ 2 else g3; let g1 := if c1 = true then g2 ||| 2 ^ 1 else g2; if c0 = true then g1 ||| 2 ^ 0 else g1) = mk6 c0 c1 c2 c3 c4 c5 := by decide +kernel
theorem mk_bits : ∀ s, s < 64 → mk6 (s.testBit 0) (s.testBit 1) (s.testBit 2) (s.testBit 3) (s.testBit 4) (s.testBit 5) = s := by decide +kernel
theorem gbr_mk (m b : Nat) : gbr m b 6 = mkS (fun j => decide (dgt m j = b + 1)) := by
  rw [mkS_6, ← mk6_or]
  simp only [gbr, decide_eq_true_eq]
theorem rk_mk : ∀ c0 c1 c2 c3 c4 c5 : Bool, rk (mk6 c0 c1 c2 c3 c4 c5) = (if c0 = true then 7776 else 0) + (if c1 = true then 1296 else 0) + (if c2 = true then 216 else 0) + (if c3 = true then 36 else 0) + (if c4 = true then 6 else 0) + (if c5 = true then 1 else 0) := by decide +kernel
theorem so_mk (f : Nat → Int) (c : Nat → Bool) : so f (mkS c) 6 = (if c 0 = true then f 0 else 0) + (if c 1 = true then f 1 else 0) + (if c 2 = true then f 2 else 0) + (if c 3 = true then f 3 else 0) + (if c 4 = true then f 4 else 0) + (if c 5 = true then f 5 else 0) := by
  obtain ⟨b0, b1, b2, b3, b4, b5⟩ := mk6_bit (c 0) (c 1) (c 2) (c 3) (c 4) (c 5)
  rw [← mkS_6] at b0 b1 b2 b3 b4 b5
  simp only [so, b0, b1, b2, b3, b4, b5]
  omega
def sel (m : Nat) : Nat := mkS (fun j => decide (dgt m j = 0))
theorem sel_so (res : Nat → Int) (m : Nat) : so res (sel m) 6 = srr res m 6 := by
  unfold sel
  rw [so_mk]
  simp only [srr, decide_eq_true_eq, Nat.reduceSub, Nat.sub_self, Nat.sub_zero]
  omega
theorem dig_sum {m : Nat} (hm : m < 46656) : m = dgt m 0 * 7776 + dgt m 1 * 1296 + dgt m 2 * 216 + dgt m 3 * 36 + dgt m 4 * 6 + dgt m 5 := by
  have e0 : dgt m 0 = m / 7776 % 6 := rfl
  have e1 : dgt m 1 = m / 1296 % 6 := rfl
  have e2 : dgt m 2 = m / 216 % 6 := rfl
  have e3 : dgt m 3 = m / 36 % 6 := rfl
  have e4 : dgt m 4 = m / 6 % 6 := rfl
  have e5 : dgt m 5 = m % 6 := by show m / 1 % 6 = _; rw [Nat.div_one]
  omega
theorem one_dig {o : Nat} (h : o < 6) (P : Int) : (if o = 1 then P else 0) * 1 + (if o = 2 then P else 0) * 2 + (if o = 3 then P else 0) * 3 + (if o = 4 then P else 0) * 4 + (if o = 5 then P else 0) * 5 = o * P := by
  have h6 : o = 0 ∨ o = 1 ∨ o = 2 ∨ o = 3 ∨ o = 4 ∨ o = 5 := by omega
  rcases h6 with rfl | rfl | rfl | rfl | rfl | rfl <;> simp <;> omega
theorem rk_sum {m : Nat} (hm : m < 46656) : rk (gbr m 0 6) * 1 + rk (gbr m 1 6) * 2 + rk (gbr m 2 6) * 3 + rk (gbr m 3 6) * 4 + rk (gbr m 4 6) * 5 = m := by
  have hd := dig_sum hm
  have d0 := one_dig (dgt_lt m 0) 7776
  have d1 := one_dig (dgt_lt m 1) 1296
  have d2 := one_dig (dgt_lt m 2) 216
  have d3 := one_dig (dgt_lt m 3) 36
  have d4 := one_dig (dgt_lt m 4) 6
  have d5 := one_dig (dgt_lt m 5) 1
  simp only [gbr_mk, mkS_6, rk_mk, decide_eq_true_eq, Nat.zero_add, Nat.reduceAdd]
  omega
/-- what an allocation counts -/
def sco (wt : Nat → Nat → Int) (res : Nat → Int) (m : Nat) : Int := swf wt m (srr res m 6) 5 * 46656 - m
theorem sco_eq (wt : Nat → Nat → Int) (res : Nat → Int) {m : Nat} (hm : m < 46656) : sco wt res m = so res (sel m) 6 * 46656 + own wt 0 (gbr m 0 6) + own wt 1 (gbr m 1 6) + own wt 2 (gbr m 2 6) + own wt 3 (gbr m 3 6) + own wt 4 (gbr m 4 6) := by
  have h := rk_sum hm
  rw [sel_so]
  simp only [sco, swf, own]
  omega
theorem mk6_step : ∀ a0 a1 a2 a3 a4 a5 b0 b1 b2 b3 b4 b5 : Bool, (a0 && b0) = false → (a1 && b1) = false → (a2 && b2) = false → (a3 && b3) = false → (a4 && b4) = false → (a5 && b5) = false →
    mk6 a0 a1 a2 a3 a4 a5 &&& mk6 (a0 || b0) (a1 || b1) (a2 || b2) (a3 || b3) (a4 || b4) (a5 || b5) = mk6 a0 a1 a2 a3 a4 a5 ∧ mk6 (a0 || b0) (a1 || b1) (a2 || b2) (a3 || b3) (a4 || b4) (a5 || b5) - mk6 a0 a1 a2 a3 a4 a5 = mk6 b0 b1 b2 b3 b4 b5 := by decide +kernel
def upto (m k : Nat) : Nat := mkS (fun j => decide (dgt m j ≤ k))
theorem upto_step (m k : Nat) : upto m k &&& upto m (k + 1) = upto m k ∧ upto m (k + 1) - upto m k = gbr m k 6 := by
  have e : ∀ j, decide (dgt m j ≤ k + 1) = (decide (dgt m j ≤ k) || decide (dgt m j = k + 1)) := fun j => by
    by_cases h1 : dgt m j ≤ k
    · simp [h1, show dgt m j ≤ k + 1 by omega]
    · by_cases h2 : dgt m j = k + 1
      · simp [h2]
      · simp [h1, h2, show ¬ dgt m j ≤ k + 1 by omega]
  have n : ∀ j, (decide (dgt m j ≤ k) && decide (dgt m j = k + 1)) = false := fun j => by
    by_cases h1 : dgt m j ≤ k
    · simp [show ¬ dgt m j = k + 1 by omega]
    · simp [h1]
  rw [gbr_mk]
  unfold upto
  simp only [mkS_6, e]
  exact mk6_step _ _ _ _ _ _ _ _ _ _ _ _ (n 0) (n 1) (n 2) (n 3) (n 4) (n 5)
theorem upto_lt (m k : Nat) : upto m k < 64 := mkS_lt _
theorem upto_5 (m : Nat) : upto m 5 = 63 := by
  have h : ∀ j, decide (dgt m j ≤ 5) = true := fun j => decide_eq_true (by have := dgt_lt m j; omega)
  unfold upto
  simp only [mkS_6, h]
  rfl
theorem upto_0 (m : Nat) : upto m 0 = sel m := by
  unfold upto sel
  simp only [Nat.le_zero]
theorem own_0 {wt : Nat → Nat → Int} (hwt : ∀ b, b < 5 → tb_ok (wt b)) {k : Nat} (hk : k < 5) : own wt k 0 = 0 := by
  unfold own; rw [(hwt k hk).zero, show rk 0 = 0 by decide]; omega
def alw (lo : Int) (m : Nat) : Prop := ∀ k : Nat, (k : Int) = lo → gbr m k 6 = 0
def psum (wt : Nat → Nat → Int) (m : Nat) : Nat → Int
  | 0 => 0
  | k + 1 => psum wt m k + own wt k (gbr m k 6)
theorem gs_ge {wt : Nat → Nat → Int} {res : Nat → Int} (hwt : ∀ b, b < 5 → tb_ok (wt b)) {lo : Int} {m : Nat} (ha : alw lo m) : ∀ k, k ≤ 5 → so res (sel m) 6 * 46656 + psum wt m k ≤ gs wt res lo k (upto m k)
  | 0, _ => by
    rw [upto_0]
    show _ + 0 ≤ so res (sel m) 6 * 46656
    omega
  | k + 1, h => by
    have ih := gs_ge hwt (res := res) ha k (by omega)
    obtain ⟨h1, h2⟩ := upto_step m k
    show _ + (psum wt m k + own wt k (gbr m k 6)) ≤ (if (k : Int) = lo then gs wt res lo k else jn (gs wt res lo k) (own wt k)) (upto m (k + 1))
    by_cases hlo : (k : Int) = lo
    · rw [if_pos hlo]
      have hz := ha k hlo
      rw [hz] at h2 ⊢
      rw [own_0 hwt (by omega)]
      have hle := sub_le h1
      rw [show upto m (k + 1) = upto m k by omega]
      omega
    · rw [if_neg hlo]
      have h3 := jn_ge (gs wt res lo k) (own wt k) (upto_lt m (k + 1)) h1
      rw [h2] at h3
      omega
theorem sco_le {wt : Nat → Nat → Int} {res : Nat → Int} (hwt : ∀ b, b < 5 → tb_ok (wt b)) {lo : Int} {m : Nat} (hm : m < 46656) (ha : alw lo m) : sco wt res m ≤ gs wt res lo 5 63 := by
  have h := gs_ge hwt (res := res) ha 5 (by decide)
  rw [upto_5] at h
  rw [sco_eq wt res hm]
  simp only [psum] at h
  omega
/-- items of u whose owner is k -/
def its (u : Nat) (o : Nat → Nat) (k : Nat) : Nat := mkS (fun j => u.testBit j && decide (o j = k))
def psu (wt : Nat → Nat → Int) (u : Nat) (o : Nat → Nat) : Nat → Int
  | 0 => 0
  | k + 1 => psu wt u o k + own wt k (its u o (k + 1))
theorem mkS_congr {a b : Nat → Bool} (h : ∀ j, j < 6 → a j = b j) : mkS a = mkS b := by
  rw [mkS_6, mkS_6, h 0 (by decide), h 1 (by decide), h 2 (by decide), h 3 (by decide), h 4 (by decide), h 5 (by decide)]
theorem mk6_dif : ∀ a0 a1 a2 a3 a4 a5 b0 b1 b2 b3 b4 b5 : Bool, mk6 a0 a1 a2 a3 a4 a5 &&& mk6 b0 b1 b2 b3 b4 b5 = mk6 a0 a1 a2 a3 a4 a5 →
    mk6 b0 b1 b2 b3 b4 b5 - mk6 a0 a1 a2 a3 a4 a5 = mk6 (b0 && !a0) (b1 && !a1) (b2 && !a2) (b3 && !a3) (b4 && !a4) (b5 && !a5) ∧ (a0 && !b0) = false ∧ (a1 && !b1) = false ∧ (a2 && !b2) = false ∧ (a3 && !b3) = false ∧ (a4 && !b4) = false ∧ (a5 && !b5) = false := by decide +kernel
theorem sub_bits {p u : Nat} (hu : u < 64) (h : p &&& u = p) : u - p = mkS (fun j => u.testBit j && !p.testBit j) ∧ ∀ j, j < 6 → p.testBit j = true → u.testBit j = true := by
  have hp := sub_lt hu h
  have h1 := mk_bits u hu
  have h2 := mk_bits p hp
  obtain ⟨g1, g2, g3, g4, g5, g6, g7⟩ := mk6_dif (p.testBit 0) (p.testBit 1) (p.testBit 2) (p.testBit 3) (p.testBit 4) (p.testBit 5) (u.testBit 0) (u.testBit 1) (u.testBit 2) (u.testBit 3) (u.testBit 4) (u.testBit 5) (by rw [h1, h2]; exact h)
  rw [h1, h2] at g1
  refine ⟨g1, fun j hj hpj => ?_⟩
  have hj6 : j = 0 ∨ j = 1 ∨ j = 2 ∨ j = 3 ∨ j = 4 ∨ j = 5 := by omega
  rcases hj6 with rfl | rfl | rfl | rfl | rfl | rfl <;> simp_all
theorem psu_congr {wt : Nat → Nat → Int} {u u' : Nat} {o o' : Nat → Nat} : ∀ k, (∀ b, b < k → its u o (b + 1) = its u' o' (b + 1)) → psu wt u o k = psu wt u' o' k
  | 0, _ => rfl
  | k + 1, h => by
    show psu wt u o k + _ = psu wt u' o' k + _
    rw [psu_congr k (fun b hb => h b (by omega)), h k (by omega)]
theorem gs_is {wt : Nat → Nat → Int} {res : Nat → Int} (hwt : ∀ b, b < 5 → tb_ok (wt b)) (lo : Int) : ∀ k, k ≤ 5 → ∀ u, u < 64 → ∃ o : Nat → Nat, (∀ j, o j ≤ k) ∧ (∀ b : Nat, (b : Int) = lo → its u o (b + 1) = 0) ∧ gs wt res lo k u = so res (its u o 0) 6 * 46656 + psu wt u o k
  | 0, _, u, hu => by
    refine ⟨fun _ => 0, fun _ => Nat.le_refl _, fun b _ => ?_, ?_⟩
    · have : its u (fun _ => 0) (b + 1) = mkS (fun _ => false) := mkS_congr (fun j _ => by simp)
      rw [this]; rfl
    · have : its u (fun _ => 0) 0 = u := by
        have h1 : its u (fun _ => 0) 0 = mkS (fun j => u.testBit j) := mkS_congr (fun j _ => by simp)
        rw [h1, mkS_6]; exact mk_bits u hu
      rw [this]
      show so res u 6 * 46656 = _ + 0
      omega
  | k + 1, hk, u, hu => by
    show ∃ o : Nat → Nat, (∀ j, o j ≤ k + 1) ∧ (∀ b : Nat, (b : Int) = lo → its u o (b + 1) = 0) ∧ (if (k : Int) = lo then gs wt res lo k else jn (gs wt res lo k) (own wt k)) u = so res (its u o 0) 6 * 46656 + (psu wt u o k + own wt k (its u o (k + 1)))
    by_cases hlo : (k : Int) = lo
    · rw [if_pos hlo]
      obtain ⟨o, h1, h2, h3⟩ := gs_is hwt (res := res) lo k (by omega) u hu
      refine ⟨o, fun j => by have := h1 j; omega, h2, ?_⟩
      rw [h2 k hlo, own_0 hwt (by omega), h3]; omega
    · rw [if_neg hlo]
      obtain ⟨p, hp, e⟩ := jn_is (gs wt res lo k) (own wt k) hu
      obtain ⟨o, h1, h2, h3⟩ := gs_is hwt (res := res) lo k (by omega) p (sub_lt hu hp)
      obtain ⟨s1, s2⟩ := sub_bits hu hp
      obtain ⟨o', ho1, ho2⟩ : ∃ o' : Nat → Nat, (∀ j, p.testBit j = true → o' j = o j) ∧ (∀ j, p.testBit j = false → o' j = k + 1) := ⟨fun j => if p.testBit j = true then o j else k + 1, fun j hj => if_pos hj, fun j hj => if_neg (by rw [hj]; decide)⟩
      have key : ∀ c, c ≤ k → its u o' c = its p o c := fun c hc => mkS_congr (fun j hj => by
        cases hpj : p.testBit j with
        | true => rw [s2 j hj hpj, ho1 j hpj]
        | false => rw [ho2 j hpj, decide_eq_false (show ¬ k + 1 = c by omega), Bool.and_false, Bool.false_and])
      have last : its u o' (k + 1) = u - p := by
        rw [s1]
        exact mkS_congr (fun j hj => by
          have := h1 j
          cases hpj : p.testBit j with
          | true => rw [ho1 j hpj, decide_eq_false (show ¬ o j = k + 1 by omega)]; rfl
          | false => rw [ho2 j hpj, decide_eq_true rfl]; rfl)
      refine ⟨o', fun j => ?_, fun b hb => ?_, ?_⟩
      · have := h1 j
        cases hpj : p.testBit j with
        | true => rw [ho1 j hpj]; omega
        | false => rw [ho2 j hpj]; exact Nat.le_refl _
      · by_cases hbk : b + 1 ≤ k
        · rw [key (b + 1) hbk]; exact h2 b hb
        · have hne : ¬ b = k := fun z => hlo (by rw [← z]; exact hb)
          have : its u o' (b + 1) = mkS (fun _ => false) := mkS_congr (fun j hj => by
            have := h1 j
            cases hpj : p.testBit j with
            | true => rw [ho1 j hpj, decide_eq_false (show ¬ o j = b + 1 by omega), Bool.and_false]
            | false => rw [ho2 j hpj, decide_eq_false (show ¬ k + 1 = b + 1 by omega), Bool.and_false])
          rw [this]; rfl
      · rw [e, h3, key 0 (by omega), last, psu_congr k (fun b hb => key (b + 1) (by omega))]; omega
theorem dgt_of {o : Nat → Nat} (h : ∀ j, o j ≤ 5) {j : Nat} (hj : j < 6) : dgt (o 0 * 7776 + o 1 * 1296 + o 2 * 216 + o 3 * 36 + o 4 * 6 + o 5) j = o j := by
  have h0 := h 0; have h1 := h 1; have h2 := h 2; have h3 := h 3; have h4 := h 4; have h5 := h 5
  have e0 : ∀ m, dgt m 0 = m / 7776 % 6 := fun _ => rfl
  have e1 : ∀ m, dgt m 1 = m / 1296 % 6 := fun _ => rfl
  have e2 : ∀ m, dgt m 2 = m / 216 % 6 := fun _ => rfl
  have e3 : ∀ m, dgt m 3 = m / 36 % 6 := fun _ => rfl
  have e4 : ∀ m, dgt m 4 = m / 6 % 6 := fun _ => rfl
  have e5 : ∀ m, dgt m 5 = m % 6 := fun m => by show m / 1 % 6 = _; rw [Nat.div_one]
  have hj6 : j = 0 ∨ j = 1 ∨ j = 2 ∨ j = 3 ∨ j = 4 ∨ j = 5 := by omega
  rcases hj6 with rfl | rfl | rfl | rfl | rfl | rfl
  · rw [e0]; omega
  · rw [e1]; omega
  · rw [e2]; omega
  · rw [e3]; omega
  · rw [e4]; omega
  · rw [e5]; omega
theorem sco_is {wt : Nat → Nat → Int} (res : Nat → Int) (hwt : ∀ b, b < 5 → tb_ok (wt b)) (lo : Int) : ∃ m, m < 46656 ∧ alw lo m ∧ gs wt res lo 5 63 = sco wt res m := by
  obtain ⟨o, h1, h2, h3⟩ := gs_is hwt (res := res) lo 5 (by decide) 63 (by decide)
  have h0 := h1 0; have g1 := h1 1; have g2 := h1 2; have g3 := h1 3; have g4 := h1 4; have g5 := h1 5
  have hm : o 0 * 7776 + o 1 * 1296 + o 2 * 216 + o 3 * 36 + o 4 * 6 + o 5 < 46656 := by omega
  have hb63 : ∀ j, j < 6 → (63 : Nat).testBit j = true := by decide
  have hits : ∀ c, its 63 o c = mkS (fun j => decide (dgt (o 0 * 7776 + o 1 * 1296 + o 2 * 216 + o 3 * 36 + o 4 * 6 + o 5) j = c)) := fun c => mkS_congr (fun j hj => by rw [dgt_of h1 hj, hb63 j hj, Bool.true_and])
  have hg : ∀ b, its 63 o (b + 1) = gbr (o 0 * 7776 + o 1 * 1296 + o 2 * 216 + o 3 * 36 + o 4 * 6 + o 5) b 6 := fun b => by rw [hits, gbr_mk]
  refine ⟨_, hm, fun k hk => by rw [← hg]; exact h2 k hk, ?_⟩
  rw [sco_eq wt res hm, h3]
  have hs : its 63 o 0 = sel (o 0 * 7776 + o 1 * 1296 + o 2 * 216 + o 3 * 36 + o 4 * 6 + o 5) := hits 0
  rw [hs]
  simp only [psu, hg]
  omega
theorem bo_lt {wt : Nat → Nat → Int} {res : Nat → Int} {lo w : Int} (hw : -1 < w) : ∀ k, (∀ m, m < k → wof wt res lo m < w) → (bo wt res lo k).1 < w
  | 0, _ => hw
  | k + 1, h => by
    have ih := bo_lt hw k (fun m hm => h m (by omega))
    unfold bo
    split
    · exact h k (by omega)
    · exact ih
theorem bo_at {wt : Nat → Nat → Int} {res : Nat → Int} {lo : Int} {m0 : Nat} (hw : -1 < wof wt res lo m0) (h1 : ∀ m, m < m0 → wof wt res lo m < wof wt res lo m0) : ∀ k, m0 < k → (∀ m, m < k → wof wt res lo m ≤ wof wt res lo m0) → bo wt res lo k = (wof wt res lo m0, m0)
  | 0, h, _ => by omega
  | k + 1, h, h2 => by
    unfold bo
    by_cases hk : k = m0
    · subst hk
      rw [if_pos (bo_lt hw k h1)]
    · rw [bo_at hw h1 k (by omega) (fun m hm => h2 m (by omega)), if_neg]
      have := h2 k (by omega)
      show ¬ wof wt res lo m0 < wof wt res lo k
      omega
theorem wof_alw {wt : Nat → Nat → Int} {res : Nat → Int} {lo : Int} {m : Nat} (ha : alw lo m) : wof wt res lo m = swf wt m (srr res m 6) 5 := by
  unfold wof
  rw [if_neg]
  rintro ⟨h1, h2⟩
  exact h2 (ha lo.toNat (Int.toNat_of_nonneg h1))
theorem wof_no {wt : Nat → Nat → Int} {res : Nat → Int} {lo : Int} {m : Nat} (ha : ¬ alw lo m) : wof wt res lo m = -1 := by
  unfold wof
  rw [if_pos]
  by_cases h1 : 0 ≤ lo
  · refine ⟨h1, fun z => ha (fun k hk => ?_)⟩
    have : k = lo.toNat := by omega
    rw [this]; exact z
  · exact absurd (fun k hk => by omega) ha
/-- the reference's search finds the class's greatest score -/
theorem best_eq {wt : Nat → Nat → Int} {res : Nat → Int} (hwt : ∀ b, b < 5 → tb_ok (wt b)) (hres : ∀ j, j < 6 → 0 ≤ res j ∧ res j ≤ 999) (lo : Int) :
    wof wt res lo (bo wt res lo 46656).2 = wf wt res lo ∧ ((bo wt res lo 46656).2 : Int) = wf wt res lo * 46656 - gs wt res lo 5 63 ∧ (bo wt res lo 46656).2 < 46656 := by
  obtain ⟨m0, hm0, ha0, he⟩ := sco_is res hwt lo
  have hb0 := srr_b hres m0 6 (by decide)
  have hs0 := swf_b hwt m0 (s0 := srr res m0 6) (by omega) 5 (by decide)
  have hw0 := wof_alw (wt := wt) (res := res) ha0
  have hle : ∀ m, m < 46656 → alw lo m → swf wt m (srr res m 6) 5 * 46656 - m ≤ swf wt m0 (srr res m0 6) 5 * 46656 - m0 := fun m hm ha => by
    have := sco_le (res := res) hwt hm ha
    rw [he] at this
    exact this
  have hbo : bo wt res lo 46656 = (wof wt res lo m0, m0) := by
    refine bo_at (by rw [hw0]; omega) (fun m hm => ?_) 46656 hm0 (fun m hm => ?_)
    · by_cases ha : alw lo m
      · have := hle m (by omega) ha
        rw [wof_alw ha, hw0]; omega
      · rw [wof_no ha, hw0]; omega
    · by_cases ha : alw lo m
      · have := hle m hm ha
        rw [wof_alw ha, hw0]; omega
      · rw [wof_no ha, hw0]; omega
  rw [hbo]
  show wof wt res lo m0 = wf wt res lo ∧ ((m0 : Nat) : Int) = _ ∧ m0 < 46656
  unfold sco at he
  have hwf : wf wt res lo = swf wt m0 (srr res m0 6) 5 := by unfold wf; rw [he]; omega
  rw [hw0, hwf, he]
  omega
theorem best_bst {wt : Nat → Nat → Int} {res : Nat → Int} (hwt : ∀ b, b < 5 → tb_ok (wt b)) (hres : ∀ j, j < 6 → 0 ≤ res j ∧ res j ≤ 999) : (bo wt res (-1) 46656).2 = bst wt res := by
  have h := (best_eq hwt hres (-1)).2.1
  unfold bst
  omega
theorem sto6 (ow : Nat → Int32) (v : Int32) : sto ow v 6 = mkS (fun j => decide (ow j = v)) := by
  rw [mkS_6]
  have e : ∀ c0 c1 c2 c3 c4 c5 : Bool, (let g0 := if c0 = true then 0 ||| 2 ^ 0 else 0; let g1 := if c1 = true then g0 ||| 2 ^ 1 else g0; let g2 := if c2 = true then g1 ||| 2 ^ 2 else g1; let g3 := if c3 = true then g2 ||| 2 ^ 3 else g2; let g4 := if c4 = true then g3 ||| 2 ^ 4 else g3; if c5 = true then g4 ||| 2 ^ 5 else g4) = mk6 c0 c1 c2 c3 c4 c5 := by decide +kernel
  rw [← e]
  simp only [sto, decide_eq_true_eq]
theorem sto_bow (wt : Nat → Nat → Int) (res : Nat → Int) {b : Nat} (hb : b < 5) : sto (bow wt res) (nI b) 6 = gbr (bst wt res) b 6 := by
  rw [sto6, gbr_mk]
  refine mkS_congr (fun j hj => ?_)
  have hd := dgt_lt (bst wt res) j
  have e : bow wt res j = zI (((dgt (bst wt res) j : Nat) : Int) - 1) := rfl
  rw [e, nI_zI]
  have h9 := zI_eq (a := ((dgt (bst wt res) j : Nat) : Int) - 1) (b := (b : Int)) (by omega) (by omega) (by omega) (by omega)
  by_cases h : dgt (bst wt res) j = b + 1
  · rw [decide_eq_true h, decide_eq_true (h9.mpr (by omega))]
  · rw [decide_eq_false h, decide_eq_false (fun z => h (by have := h9.mp z; omega))]
