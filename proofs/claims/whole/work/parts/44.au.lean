/-! the reference's automaton and the class's reader: one fault, one count -/
def AU (T : Nat → Nat) (n p st ms dp fd : Nat) : Int × Nat := au_run T n (n - p) p st ms dp fd
theorem AU_end {T : Nat → Nat} {n st ms dp fd : Nat} : AU T n n st ms dp fd = if dp = 0 ∧ 4 ≤ st ∧ st ≠ 6 then (-1, fd) else ((n : Int), fd) := by
  unfold AU; rw [Nat.sub_self]; rfl
theorem AU_none {T : Nat → Nat} {n p st ms dp fd : Nat} (hp : p < n) (h : au_nx T n p st ms dp fd = none) : AU T n p st ms dp fd = ((p : Int), 0) := by
  unfold AU
  obtain ⟨k, hk⟩ : ∃ k, n - p = k + 1 := ⟨n - p - 1, by omega⟩
  rw [hk]; exact au_run_none h
theorem AU_some {T : Nat → Nat} {n p st ms dp fd : Nat} {r : Nat × Nat × Nat × Nat} (hp : p < n) (h : au_nx T n p st ms dp fd = some r) (h12 : r.2.2.2 ≤ 12) : AU T n p st ms dp fd = AU T n (p + 1) r.1 r.2.1 r.2.2.1 r.2.2.2 := by
  unfold AU
  obtain ⟨k, hk⟩ : ∃ k, n - p = k + 1 := ⟨n - p - 1, by omega⟩
  rw [hk, au_run_some h, if_neg (by omega), show n - (p + 1) = k by omega]
theorem AU_over {T : Nat → Nat} {n p st ms dp fd : Nat} {r : Nat × Nat × Nat × Nat} (hp : p < n) (h : au_nx T n p st ms dp fd = some r) (h12 : 12 < r.2.2.2) : AU T n p st ms dp fd = ((p : Int), 0) := by
  unfold AU
  obtain ⟨k, hk⟩ : ∃ k, n - p = k + 1 := ⟨n - p - 1, by omega⟩
  rw [hk, au_run_some h, if_pos h12]
theorem dg_no {T : Nat → Nat} {n p : Nat} (h : ¬ (48 ≤ T p ∧ T p ≤ 57)) : ¬ pr_dg T n p = true := fun z => h (pr_dg_lt z).2
theorem lt_no {T : Nat → Nat} {n p : Nat} (h : ¬ (97 ≤ T p ∧ T p ≤ 102)) : ¬ pr_lt T n p = true := fun z => h (pr_lt_lt z).2
theorem nx_dig0 {T : Nat → Nat} {n p ms dp fd : Nat} (h : pr_dg T n p = true) : au_nx T n p 0 ms dp fd = some (1, 0, dp, fd + 1) := by unfold au_nx; rw [if_pos rfl, if_pos h]
theorem nx_open {T : Nat → Nat} {n p ms dp fd : Nat} (h : T p = 40) (hd : dp < 8) : au_nx T n p 0 ms dp fd = some (0, 0, dp + 1, fd) := by unfold au_nx; rw [if_pos rfl, if_neg (dg_no (by omega)), if_pos ⟨h, hd⟩]
theorem nx_bad0 {T : Nat → Nat} {n p ms dp fd : Nat} (h : pr_dg T n p = false) (hd : ¬ (T p = 40 ∧ dp < 8)) : au_nx T n p 0 ms dp fd = none := by unfold au_nx; rw [if_pos rfl, if_neg (by rw [h]; decide), if_neg hd]
theorem nx_digs {T : Nat → Nat} {n p st ms dp fd : Nat} (h : pr_dg T n p = true) (hs : st = 1 ∨ st = 2 ∨ (6 ≤ st ∧ st ≤ 8)) : au_nx T n p st ms dp fd = some (st + 1, ms, dp, fd) := by unfold au_nx; rw [if_neg (by omega), if_pos h, if_pos hs]
theorem nx_let {T : Nat → Nat} {n p st ms dp fd : Nat} (h : pr_lt T n p = true) (h1 : 1 ≤ st) (h4 : st ≤ 4) (hb : ms.testBit (T p - 97) = false) : au_nx T n p st ms dp fd = some (4, ms ||| 2 ^ (T p - 97), dp, fd) := by
  have z := pr_lt_lt h
  unfold au_nx; rw [if_neg (by omega), if_neg (dg_no (by omega)), if_pos h, if_pos ⟨h4, hb⟩]
theorem nx_low {T : Nat → Nat} {n p st ms dp fd : Nat} (h : ¬ pr_lt T n p = true) (h1 : 1 ≤ st) (h3 : st ≤ 3) (hd : st < 3 → pr_dg T n p = false) : au_nx T n p st ms dp fd = none := by
  unfold au_nx; rw [if_neg (by omega)]
  by_cases hg : pr_dg T n p = true
  · rw [if_pos hg, if_neg (fun z => by have := hd (by omega); rw [hg] at this; cases this)]
  · rw [if_neg hg, if_neg h, if_neg (by omega)]
theorem nx_sign {T : Nat → Nat} {n p st ms dp fd : Nat} (h4 : 4 ≤ st) (h6 : st ≠ 6) (h : T p = 43 ∨ T p = 94) : au_nx T n p st ms dp fd = some (0, ms, dp, fd + 1) := by
  unfold au_nx; rw [if_neg (by omega), if_neg (dg_no (by omega)), if_neg (lt_no (by omega)), if_pos ⟨h4, h6⟩, if_pos h]
theorem nx_cap {T : Nat → Nat} {n p st ms dp fd : Nat} (h4 : 4 ≤ st) (h6 : st ≠ 6) (h : T p = 60) : au_nx T n p st ms dp fd = some (6, ms, dp, fd + 1) := by
  unfold au_nx; rw [if_neg (by omega), if_neg (dg_no (by omega)), if_neg (lt_no (by omega)), if_pos ⟨h4, h6⟩, if_neg (by omega), if_pos h]
theorem nx_close {T : Nat → Nat} {n p st ms dp fd : Nat} (h4 : 4 ≤ st) (h6 : st ≠ 6) (h : T p = 41) (hd : 0 < dp) : au_nx T n p st ms dp fd = some (5, ms, dp - 1, fd) := by
  unfold au_nx; rw [if_neg (by omega), if_neg (dg_no (by omega)), if_neg (lt_no (by omega)), if_pos ⟨h4, h6⟩, if_neg (by omega), if_neg (by omega), if_pos ⟨h, hd⟩]
theorem nx_6 {T : Nat → Nat} {n p ms dp fd : Nat} (h : pr_dg T n p = false) : au_nx T n p 6 ms dp fd = none := by
  unfold au_nx; rw [if_neg (by decide), if_neg (by rw [h]; decide)]
  by_cases hl : pr_lt T n p = true
  · rw [if_pos hl, if_neg (by omega)]
  · rw [if_neg hl, if_neg (by omega)]
/-- a state behind a whole part -/
def CS (T : Nat → Nat) (n q st ms : Nat) : Prop := 4 ≤ st ∧ st ≤ 9 ∧ st ≠ 6 ∧ (st = 7 ∨ st = 8 → pr_dg T n q = false) ∧ (st = 4 → pr_lt T n q = true → ms.testBit (T q - 97) = true)
theorem nx_dead {T : Nat → Nat} {n q st ms dp fd : Nat} (h : CS T n q st ms) (h60 : T q ≠ 60) (h43 : T q ≠ 43) (h94 : T q ≠ 94) (h41 : ¬ (T q = 41 ∧ 0 < dp)) : au_nx T n q st ms dp fd = none := by
  obtain ⟨h1, h2, h3, h4, h5⟩ := h
  unfold au_nx; rw [if_neg (by omega)]
  by_cases hg : pr_dg T n q = true
  · rw [if_pos hg, if_neg (fun z => by have := h4 (by omega); rw [hg] at this; cases this)]
  · rw [if_neg hg]
    by_cases hl : pr_lt T n q = true
    · rw [if_pos hl, if_neg (fun z => by have := h5 (by omega) hl; rw [z.2] at this; cases this)]
    · rw [if_neg hl, if_pos ⟨h1, h3⟩, if_neg (by omega), if_neg h60, if_neg h41]
theorem se_no {T : Nat → Nat} {n q c : Nat} (h : pr_se T n q c = false) (hq : q < n) : T q ≠ c := fun z => by
  have : pr_se T n q c = true := decide_eq_true ⟨hq, z⟩
  rw [h] at this; cases this
theorem AU_dead {T : Nat → Nat} {n q st ms dp fd : Nat} (hq : q ≤ n) (h : CS T n q st ms) (hs : ∀ s ∈ [60, 43, 94], pr_se T n q s = false) (h41 : pr_se T n q 41 = false ∨ dp = 0) (hn : q = n → 0 < dp) : (AU T n q st ms dp fd).1 = (q : Int) := by
  by_cases hqn : q = n
  · subst hqn
    have := hn rfl
    rw [AU_end, if_neg (by omega)]
  · have hlt : q < n := by omega
    rw [AU_none hlt (nx_dead h (se_no (hs 60 (by decide)) hlt) (se_no (hs 43 (by decide)) hlt) (se_no (hs 94 (by decide)) hlt) (fun z => h41.elim (fun y => se_no y hlt z.1) (fun y => by omega)))]
/-- what the automaton says where the reader says r -/
def XA (T : Nat → Nat) (n : Nat) (ex : List Nat) (p c dp : Nat) (X : Int × Nat) (r : pr_R) : Prop := (∀ q, r = (q, none) → X.1 = (q : Int)) ∧ ∀ q c' v, r = (q, some (c', v)) → p < q ∧ q ≤ n ∧ c < c' ∧ c' ≤ 12 ∧ (∀ s ∈ ex, pr_se T n q s = false) ∧ ∃ st ms, CS T n q st ms ∧ X = AU T n q st ms dp c'
theorem XA.no {T : Nat → Nat} {n : Nat} {ex : List Nat} {p c dp q : Nat} {X : Int × Nat} (h : X.1 = (q : Int)) : XA T n ex p c dp X (q, none) := ⟨fun _ z => by cases z; exact h, fun _ _ _ z => by cases z⟩
theorem XA.yes {T : Nat → Nat} {n : Nat} {ex : List Nat} {p c dp q c' st ms : Nat} {v : Nat → Int} {X : Int × Nat} (h1 : p < q) (h2 : q ≤ n) (h3 : c < c') (h4 : c' ≤ 12) (h5 : ∀ s ∈ ex, pr_se T n q s = false) (h6 : CS T n q st ms) (h7 : X = AU T n q st ms dp c') : XA T n ex p c dp X (q, some (c', v)) := ⟨fun _ z => (by cases z), fun _ _ _ z => by cases z; exact ⟨h1, h2, h3, h4, h5, st, ms, h6, h7⟩⟩
theorem num_AU {T : Nat → Nat} {n dp c ms : Nat} (hc : c ≤ 12) (b : Nat) (hb : b = 0 ∨ b = 6) : ∀ k p v st, st + k = 3 → 1 ≤ st → p ≤ n → ∃ st', 1 ≤ st' ∧ st' ≤ 3 ∧ AU T n p (b + st) ms dp c = AU T n (pr_num T n k p v).1 (b + st') ms dp c ∧ (st' < 3 → pr_dg T n (pr_num T n k p v).1 = false)
  | 0, p, v, st, hk, h1, hp => ⟨st, h1, by omega, rfl, fun z => by omega⟩
  | k + 1, p, v, st, hk, h1, hp => by
    unfold pr_num
    by_cases hg : pr_dg T n p = true
    · rw [if_pos hg]
      have hlt := (pr_dg_lt hg).1
      obtain ⟨st', a1, a2, a3, a4⟩ := num_AU (T := T) (n := n) (dp := dp) (ms := ms) hc b hb k (p + 1) (v * 10 + (T p - 48)) (st + 1) (by omega) (by omega) hlt
      refine ⟨st', a1, a2, ?_, a4⟩
      rw [AU_some hlt (nx_digs hg (by omega)) hc]
      exact a3
    · rw [if_neg hg]
      exact ⟨st, h1, by omega, rfl, fun _ => by simpa using hg⟩
theorem pcn_or : ∀ m, m < 64 → ∀ j, j < 6 → m.testBit j = false → pcn (m ||| 2 ^ j) = pcn m + 1 := by decide +kernel
theorem pcn_6 : ∀ m, m < 64 → pcn m = 6 → ∀ j, j < 6 → m.testBit j = true := by decide +kernel
theorem let_AU {T : Nat → Nat} {n dp c : Nat} (hc : c ≤ 12) : ∀ k p m, m < 64 → pcn m + k = 6 → p ≤ n → AU T n p 4 m dp c = AU T n (pr_let T n k p m).1 4 (pr_let T n k p m).2 dp c ∧ (pr_lt T n (pr_let T n k p m).1 = true → (pr_let T n k p m).2.testBit (T (pr_let T n k p m).1 - 97) = true)
  | 0, p, m, hm, hk, hp => ⟨rfl, fun z => pcn_6 m hm hk _ (by have := pr_lt_lt z; show T p - 97 < 6; have h2 := this.2; simp only [pr_let] at h2; omega)⟩
  | k + 1, p, m, hm, hk, hp => by
    unfold pr_let
    by_cases hg : pr_lt T n p = true ∧ m.testBit (T p - 97) = false
    · rw [if_pos hg]
      have z := pr_lt_lt hg.1
      obtain ⟨a1, a2⟩ := let_AU (T := T) (n := n) (dp := dp) hc k (p + 1) (m ||| 2 ^ (T p - 97)) (let_bit m hm _ (by omega)).2 (by rw [pcn_or m hm _ (by omega) hg.2]; omega) z.1
      refine ⟨?_, a2⟩
      rw [AU_some z.1 (nx_let hg.1 (by decide) (by decide) hg.2) hc]
      exact a1
    · rw [if_neg hg]
      refine ⟨rfl, fun z => ?_⟩
      cases hb : m.testBit (T p - 97) with
      | true => rfl
      | false => exact absurd ⟨z, hb⟩ hg
theorem or_pos (m j : Nat) : m ||| 2 ^ j ≠ 0 := fun h => by
  have h1 := congrArg (fun z => z.testBit j) h
  simp [Nat.testBit_or, Nat.testBit_two_pow_self] at h1
theorem pr_let_pos (T : Nat → Nat) (n : Nat) : ∀ k p m, m ≠ 0 → (pr_let T n k p m).2 ≠ 0
  | 0, p, m, h => h
  | k + 1, p, m, h => by
    unfold pr_let
    split
    · exact pr_let_pos T n k _ _ (or_pos _ _)
    · exact h
theorem XA_bundle {T : Nat → Nat} {n p c dp ms : Nat} (hp : p ≤ n) (hc : c ≤ 12) (h40 : pr_se T n p 40 = false) : XA T n [] p c dp (AU T n p 0 ms dp c) (pr_bundle T n p c) := by
  have bad : pr_dg T n p = false → (AU T n p 0 ms dp c).1 = (p : Int) := fun hg => by
    by_cases hpn : p = n
    · subst hpn; rw [AU_end, if_neg (by omega)]
    · have hlt : p < n := by omega
      rw [AU_none hlt (nx_bad0 hg (fun z => se_no h40 hlt z.1))]
  unfold pr_bundle
  by_cases h12 : 12 ≤ c
  · rw [if_pos h12]
    refine XA.no ?_
    cases hg : pr_dg T n p with
    | false => exact bad hg
    | true => rw [AU_over (pr_dg_lt hg).1 (nx_dig0 hg) (by dsimp only; omega)]
  · rw [if_neg h12]
    cases hg : pr_dg T n p with
    | false => rw [if_pos rfl]; exact XA.no (bad hg)
    | true =>
      rw [if_neg (by decide)]
      have hlt := (pr_dg_lt hg).1
      have e1 : AU T n p 0 ms dp c = AU T n (p + 1) 1 0 dp (c + 1) := AU_some hlt (nx_dig0 hg) (by dsimp only; omega)
      obtain ⟨st, a1, a2, a3, a4⟩ := num_AU (T := T) (n := n) (dp := dp) (c := c + 1) (ms := 0) (by omega) 0 (Or.inl rfl) 2 (p + 1) (0 * 10 + (T p - 48)) 1 rfl (by decide) hlt
      have eN : pr_num T n 3 p 0 = pr_num T n 2 (p + 1) (0 * 10 + (T p - 48)) := by rw [pr_num, if_pos hg]
      have hge := (pr_num_ge T n 2 (p + 1) (0 * 10 + (T p - 48))).1
      have hqn := pr_num_n T n 2 (p + 1) (0 * 10 + (T p - 48)) hlt
      rw [← eN] at a3 a4 hge hqn
      generalize pr_num T n 3 p 0 = Nn at a3 a4 hge hqn ⊢
      rw [e1]
      simp only [Nat.zero_add] at a3
      rw [a3]
      by_cases hl : pr_lt T n Nn.1 = true
      · have z := pr_lt_lt hl
        have eL : pr_let T n 6 Nn.1 0 = pr_let T n 5 (Nn.1 + 1) (0 ||| 2 ^ (T Nn.1 - 97)) := by rw [pr_let, if_pos ⟨hl, Nat.zero_testBit _⟩]
        have e2 : AU T n Nn.1 st 0 dp (c + 1) = AU T n (Nn.1 + 1) 4 (0 ||| 2 ^ (T Nn.1 - 97)) dp (c + 1) := AU_some z.1 (nx_let hl a1 (by omega) (Nat.zero_testBit _)) (by dsimp only; omega)
        obtain ⟨b1, b2⟩ := let_AU (T := T) (n := n) (dp := dp) (c := c + 1) (by omega) 5 (Nn.1 + 1) (0 ||| 2 ^ (T Nn.1 - 97)) (let_bit 0 (by decide) _ (by omega)).2 (by rw [pcn_or 0 (by decide) _ (by omega) (Nat.zero_testBit _)]; rfl) z.1
        have hpos := pr_let_pos T n 5 (Nn.1 + 1) (0 ||| 2 ^ (T Nn.1 - 97)) (or_pos _ _)
        have hge2 := (pr_let_ge T n 5 (Nn.1 + 1) (0 ||| 2 ^ (T Nn.1 - 97))).1
        have hqn2 := pr_let_n T n 5 (Nn.1 + 1) (0 ||| 2 ^ (T Nn.1 - 97)) z.1
        rw [← eL] at b1 b2 hpos hge2 hqn2
        generalize pr_let T n 6 Nn.1 0 = Ll at b1 b2 hpos hge2 hqn2 ⊢
        rw [if_neg hpos]
        exact XA.yes (by omega) hqn2 (by omega) (by omega) (fun s z => by cases z) ⟨by decide, by decide, by decide, fun z => by omega, fun _ => b2⟩ (e2.trans b1)
      · have eL : pr_let T n 6 Nn.1 0 = (Nn.1, 0) := by rw [pr_let, if_neg (fun z => hl z.1)]
        rw [eL, if_pos rfl]
        refine XA.no ?_
        by_cases hnn : Nn.1 = n
        · rw [hnn, AU_end, if_neg (by omega)]
        · rw [AU_none (by omega) (nx_low hl a1 a2 a4)]
theorem XA_capl {T : Nat → Nat} {n dp pl cl : Nat} : ∀ k p c v st ms, 13 ≤ c + k → c ≤ 12 → p ≤ n → pl < p → cl < c → CS T n p st ms → XA T n [60] pl cl dp (AU T n p st ms dp c) (pr_capl T n k p c v)
  | 0, p, c, v, st, ms, hk, hc, hp, hpl, hcl, hs => by omega
  | k + 1, p, c, v, st, ms, hk, hc, hp, hpl, hcl, hs => by
    unfold pr_capl
    cases h60 : pr_se T n p 60 with
    | false =>
      rw [if_pos rfl]
      exact XA.yes hpl hp hcl hc (fun s z => by cases z with | head => exact h60 | tail _ z => cases z) hs rfl
    | true =>
      rw [if_neg (by decide)]
      obtain ⟨hlt, hT⟩ := pr_se_lt h60
      have hx := nx_cap (T := T) (n := n) (p := p) (ms := ms) (dp := dp) (fd := c) hs.1 hs.2.2.1 hT
      by_cases h12 : 12 ≤ c
      · rw [if_pos h12]
        refine XA.no ?_
        rw [AU_over hlt hx (by dsimp only; omega)]
      · rw [if_neg h12, AU_some hlt hx (by dsimp only; omega)]
        dsimp only
        cases hg : pr_dg T n (p + 1) with
        | false =>
          rw [if_pos rfl]
          refine XA.no ?_
          by_cases hnn : p + 1 = n
          · rw [hnn, AU_end, if_neg (by omega)]
          · rw [AU_none (by omega) (nx_6 hg)]
        | true =>
          rw [if_neg (by decide)]
          have hlt2 := (pr_dg_lt hg).1
          have e1 : AU T n (p + 1) 6 ms dp (c + 1) = AU T n (p + 1 + 1) 7 ms dp (c + 1) := AU_some hlt2 (nx_digs hg (by omega)) (by dsimp only; omega)
          obtain ⟨st2, a1, a2, a3, a4⟩ := num_AU (T := T) (n := n) (dp := dp) (c := c + 1) (ms := ms) (by omega) 6 (Or.inr rfl) 2 (p + 1 + 1) (0 * 10 + (T (p + 1) - 48)) 1 rfl (by decide) hlt2
          have eN : pr_num T n 3 (p + 1) 0 = pr_num T n 2 (p + 1 + 1) (0 * 10 + (T (p + 1) - 48)) := by rw [pr_num, if_pos hg]
          have hge := (pr_num_ge T n 2 (p + 1 + 1) (0 * 10 + (T (p + 1) - 48))).1
          have hqn := pr_num_n T n 2 (p + 1 + 1) (0 * 10 + (T (p + 1) - 48)) hlt2
          rw [← eN] at a3 a4 hge hqn
          generalize pr_num T n 3 (p + 1) 0 = Nn at a3 a4 hge hqn ⊢
          rw [e1, show (7 : Nat) = 6 + 1 from rfl, a3]
          exact XA_capl k Nn.1 (c + 1) _ (6 + st2) ms (by omega) (by omega) hqn (by omega) (by omega) ⟨by omega, by omega, by omega, fun z => a4 (by omega), fun z => by omega⟩
def HB (T : Nat → Nat) (n dp : Nat) (B : Option (Nat → Nat → pr_R)) : Prop := (B = none → dp = 8) ∧ ∀ f, B = some f → dp < 8 ∧ ∀ p c ms, p ≤ n → c ≤ 12 → XA T n [60, 43, 94] p c (dp + 1) (AU T n p 0 ms (dp + 1) c) (f p c)
theorem XA_atom {T : Nat → Nat} {n dp p c ms : Nat} {B : Option (Nat → Nat → pr_R)} (hB : HB T n dp B) (hp : p ≤ n) (hc : c ≤ 12) : XA T n [] p c dp (AU T n p 0 ms dp c) (pr_atom T n B p c) := by
  unfold pr_atom
  cases h40 : pr_se T n p 40 with
  | false => rw [if_pos rfl]; exact XA_bundle hp hc h40
  | true =>
    rw [if_neg (by decide)]
    obtain ⟨hlt, hT⟩ := pr_se_lt h40
    cases B with
    | none =>
      have := hB.1 rfl
      exact XA.no (by rw [AU_none hlt (nx_bad0 (decide_eq_false (fun z => by omega)) (by omega))])
    | some f =>
      obtain ⟨hd, hf⟩ := hB.2 f rfl
      have e1 : AU T n p 0 ms dp c = AU T n (p + 1) 0 0 (dp + 1) c := AU_some hlt (nx_open hT hd) hc
      rw [e1]
      have hx := hf (p + 1) c 0 hlt hc
      dsimp only
      generalize f (p + 1) c = R at hx
      obtain ⟨q, o⟩ := R
      cases o with
      | none => exact XA.no (hx.1 q rfl)
      | some r =>
        obtain ⟨c', v⟩ := r
        obtain ⟨g1, g2, g3, g4, g5, st, ms', g6, g7⟩ := hx.2 q c' v rfl
        dsimp only
        rw [g7]
        cases h41 : pr_se T n q 41 with
        | true =>
          rw [if_pos rfl]
          obtain ⟨hlt2, hT2⟩ := pr_se_lt h41
          have e2 : AU T n q st ms' (dp + 1) c' = AU T n (q + 1) 5 ms' dp c' := AU_some hlt2 (nx_close g6.1 g6.2.2.1 hT2 (by omega)) g4
          exact XA.yes (by omega) hlt2 (by omega) g4 (fun s z => by cases z) ⟨by decide, by decide, by decide, fun z => by omega, fun z => by omega⟩ e2
        | false =>
          rw [if_neg (by decide)]
          exact XA.no (AU_dead g2 g6 g5 (Or.inl h41) (fun _ => by omega))
theorem XA_cap {T : Nat → Nat} {n dp p c ms : Nat} {B : Option (Nat → Nat → pr_R)} (hB : HB T n dp B) (hp : p ≤ n) (hc : c ≤ 12) : XA T n [60] p c dp (AU T n p 0 ms dp c) (pr_cap T n B p c) := by
  have hx := XA_atom (ms := ms) hB hp hc
  unfold pr_cap
  generalize pr_atom T n B p c = R at hx
  obtain ⟨q, o⟩ := R
  cases o with
  | none => exact XA.no (hx.1 q rfl)
  | some r =>
    obtain ⟨c', v⟩ := r
    obtain ⟨g1, g2, g3, g4, g5, st, ms', g6, g7⟩ := hx.2 q c' v rfl
    dsimp only
    rw [g7]
    exact XA_capl 13 q c' v st ms' (by omega) g4 g2 g1 g3 g6
theorem XA_suml {T : Nat → Nat} {n dp pl cl : Nat} {B : Option (Nat → Nat → pr_R)} (hB : HB T n dp B) : ∀ k p c acc ms, 13 ≤ c + k → c ≤ 12 → p ≤ n → pl ≤ p → cl ≤ c → XA T n [60, 43] pl cl dp (AU T n p 0 ms dp c) (pr_suml T n B k p c acc)
  | 0, p, c, acc, ms, hk, hc, hp, hpl, hcl => by omega
  | k + 1, p, c, acc, ms, hk, hc, hp, hpl, hcl => by
    have hx := XA_cap (ms := ms) hB hp hc
    unfold pr_suml
    generalize pr_cap T n B p c = R at hx
    obtain ⟨q, o⟩ := R
    cases o with
    | none => exact XA.no (hx.1 q rfl)
    | some r =>
      obtain ⟨c', v⟩ := r
      obtain ⟨g1, g2, g3, g4, g5, st, ms', g6, g7⟩ := hx.2 q c' v rfl
      dsimp only
      rw [g7]
      cases h43 : pr_se T n q 43 with
      | false =>
        rw [if_pos rfl]
        exact XA.yes (by omega) g2 (by omega) g4 (fun s z => by
          rcases List.mem_cons.mp z with rfl | z
          · exact g5 60 (by decide)
          · rcases List.mem_cons.mp z with rfl | z
            · exact h43
            · cases z) g6 rfl
      | true =>
        rw [if_neg (by decide)]
        obtain ⟨hlt, hT⟩ := pr_se_lt h43
        have hn := nx_sign (T := T) (n := n) (p := q) (ms := ms') (dp := dp) (fd := c') g6.1 g6.2.2.1 (Or.inl hT)
        by_cases h12 : 12 ≤ c'
        · rw [if_pos h12]
          exact XA.no (by rw [AU_over hlt hn (by dsimp only; omega)])
        · rw [if_neg h12, AU_some hlt hn (by dsimp only; omega)]
          exact XA_suml hB k (q + 1) (c' + 1) _ ms' (by omega) (by omega) hlt (by omega) (by omega)
theorem XA_bidl {T : Nat → Nat} {n dp pl cl : Nat} {B : Option (Nat → Nat → pr_R)} (hB : HB T n dp B) : ∀ k p c acc ms, 13 ≤ c + k → c ≤ 12 → p ≤ n → pl ≤ p → cl ≤ c → XA T n [60, 43, 94] pl cl dp (AU T n p 0 ms dp c) (pr_bidl T n B k p c acc)
  | 0, p, c, acc, ms, hk, hc, hp, hpl, hcl => by omega
  | k + 1, p, c, acc, ms, hk, hc, hp, hpl, hcl => by
    have hx : XA T n [60, 43] p c dp (AU T n p 0 ms dp c) (pr_sum T n B p c) := XA_suml hB 13 p c _ ms (by omega) hc hp (Nat.le_refl _) (Nat.le_refl _)
    unfold pr_bidl
    generalize pr_sum T n B p c = R at hx
    obtain ⟨q, o⟩ := R
    cases o with
    | none => exact XA.no (hx.1 q rfl)
    | some r =>
      obtain ⟨c', v⟩ := r
      obtain ⟨g1, g2, g3, g4, g5, st, ms', g6, g7⟩ := hx.2 q c' v rfl
      dsimp only
      rw [g7]
      cases h94 : pr_se T n q 94 with
      | false =>
        rw [if_pos rfl]
        exact XA.yes (by omega) g2 (by omega) g4 (fun s z => by
          rcases List.mem_cons.mp z with rfl | z
          · exact g5 60 (by decide)
          · rcases List.mem_cons.mp z with rfl | z
            · exact g5 43 (by decide)
            · rcases List.mem_cons.mp z with rfl | z
              · exact h94
              · cases z) g6 rfl
      | true =>
        rw [if_neg (by decide)]
        obtain ⟨hlt, hT⟩ := pr_se_lt h94
        have hn := nx_sign (T := T) (n := n) (p := q) (ms := ms') (dp := dp) (fd := c') g6.1 g6.2.2.1 (Or.inr hT)
        by_cases h12 : 12 ≤ c'
        · rw [if_pos h12]
          exact XA.no (by rw [AU_over hlt hn (by dsimp only; omega)])
        · rw [if_neg h12, AU_some hlt hn (by dsimp only; omega)]
          exact XA_bidl hB k (q + 1) (c' + 1) _ ms' (by omega) (by omega) hlt (by omega) (by omega)
theorem XA_bidk {T : Nat → Nat} {n : Nat} : ∀ k dp p c ms, dp + k = 8 → p ≤ n → c ≤ 12 → XA T n [60, 43, 94] p c dp (AU T n p 0 ms dp c) (pr_bidk T n k p c)
  | 0, dp, p, c, ms, hk, hp, hc => XA_bidl (B := none) ⟨fun _ => by omega, fun f z => by cases z⟩ 13 p c _ ms (by omega) hc hp (Nat.le_refl _) (Nat.le_refl _)
  | k + 1, dp, p, c, ms, hk, hp, hc => XA_bidl (B := some (pr_bidk T n k)) ⟨fun z => (by cases z), fun f z => by cases z; exact ⟨by omega, fun p c ms hp hc => XA_bidk k (dp + 1) p c ms (by omega) hp hc⟩⟩ 13 p c _ ms (by omega) hc hp (Nat.le_refl _) (Nat.le_refl _)
/-- the automaton's answer is the reader's -/
theorem au_read (T : Nat → Nat) (n : Nat) : (∀ q, pr_read T n = .inl q → (au_run T n n 0 0 0 0 0).1 = (q : Int)) ∧ ∀ c v, pr_read T n = .inr (c, v) → au_run T n n 0 0 0 0 0 = (-1, c) := by
  have hx := XA_bidk (T := T) (n := n) 8 0 0 0 0 rfl (Nat.zero_le _) (by decide)
  have e0 : AU T n 0 0 0 0 0 = au_run T n n 0 0 0 0 0 := rfl
  rw [e0] at hx
  unfold pr_read
  generalize pr_bidk T n 8 0 0 = R at hx
  obtain ⟨q, o⟩ := R
  cases o with
  | none => exact ⟨fun _ z => by cases z; exact hx.1 q rfl, fun _ _ z => by cases z⟩
  | some r =>
    obtain ⟨c', v⟩ := r
    obtain ⟨g1, g2, g3, g4, g5, st, ms', g6, g7⟩ := hx.2 q c' v rfl
    dsimp only
    by_cases hqn : q = n
    · rw [if_pos hqn]
      refine ⟨fun _ z => (by cases z), fun _ _ z => ?_⟩
      cases z
      rw [g7, hqn, AU_end, if_pos ⟨rfl, g6.1, g6.2.2.1⟩]
    · rw [if_neg hqn]
      refine ⟨fun _ z => ?_, fun _ _ z => by cases z⟩
      cases z
      rw [g7]
      exact AU_dead g2 g6 g5 (Or.inr rfl) (fun z => absurd z hqn)
