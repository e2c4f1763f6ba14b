/-! what the reader's tables are: within 999 an item, growing with the set -/
def pcn (s : Nat) : Nat := s % 2 + s / 2 % 2 + s / 4 % 2 + s / 8 % 2 + s / 16 % 2 + s / 32 % 2
def tb_ok (v : Nat → Int) : Prop := (∀ s, s < 64 → 0 ≤ v s ∧ v s ≤ 999 * pcn s) ∧ ∀ s t, t < 64 → s &&& t = s → v s ≤ v t
theorem sub_lt {s t : Nat} (ht : t < 64) (h : s &&& t = s) : s < 64 := by rw [← h]; exact Nat.lt_of_le_of_lt Nat.and_le_right ht
theorem sub_le {s t : Nat} (h : s &&& t = s) : s ≤ t := by rw [← h]; exact Nat.and_le_right
theorem pcn_all : (List.range 64).all (fun t => (List.range 64).all (fun s => !(decide (s &&& t = s)) || (decide (pcn s + pcn (t - s) = pcn t) && decide (t - s = t &&& (63 - s))))) = true := by decide +kernel
theorem pcn_sub {s t : Nat} (ht : t < 64) (h : s &&& t = s) : pcn s + pcn (t - s) = pcn t ∧ t - s = t &&& (63 - s) := by
  have h1 := List.all_eq_true.mp (List.all_eq_true.mp pcn_all t (List.mem_range.mpr ht)) s (List.mem_range.mpr (sub_lt ht h))
  simp only [h, decide_true, Bool.not_true, Bool.false_or, Bool.and_eq_true, decide_eq_true_eq] at h1
  exact h1
theorem pcn_le : ∀ s, s < 64 → pcn s ≤ 6 := by decide +kernel
theorem pcn_pos : ∀ s, s < 64 → s ≠ 0 → 1 ≤ pcn s := by decide +kernel
theorem tb_ok.b {v : Nat → Int} (h : tb_ok v) {s : Nat} (hs : s < 64) : 0 ≤ v s ∧ v s ≤ 5994 := by
  have h1 := h.1 s hs
  have h2 := pcn_le s hs
  omega
theorem tb_ok.big {v : Nat → Int} (h : tb_ok v) : ∀ s, s < 64 → -500000000 ≤ v s ∧ v s ≤ 500000000 := fun s hs => by have := h.b hs; omega
theorem tb_ok.zero {v : Nat → Int} (h : tb_ok v) : v 0 = 0 := by
  have := h.1 0 (by decide)
  have e : pcn 0 = 0 := rfl
  rw [e] at this; omega
theorem tb_0 : tb_ok (fun _ => 0) := ⟨fun s _ => ⟨Int.le_refl _, by dsimp only; omega⟩, fun _ _ _ _ => Int.le_refl _⟩
theorem tb_bun {v m : Nat} (hv : v ≤ 999) (hm : m ≠ 0) : tb_ok (pr_bun v m) := by
  refine ⟨fun s hs => ?_, fun s t ht hst => ?_⟩
  · unfold pr_bun
    split
    · rename_i h
      have : s ≠ 0 := fun z => hm (by rw [z] at h; simpa using h.symm)
      have := pcn_pos s hs this
      omega
    · omega
  · unfold pr_bun
    by_cases h : s &&& m = m
    · rw [if_pos h, if_pos]
      · exact Int.le_refl _
      · rw [← h, ← Nat.and_assoc, Nat.and_comm t s, hst]
    · rw [if_neg h]; split <;> omega
theorem tb_min {f : Nat → Int} {v : Nat} (h : tb_ok f) : tb_ok (fun s => min (f s) v) :=
  ⟨fun s hs => by have := h.1 s hs; dsimp only; omega, fun s t ht hst => by have := h.2 s t ht hst; dsimp only; omega⟩
theorem tb_max {f g : Nat → Int} (h : tb_ok f) (h2 : tb_ok g) : tb_ok (fun s => max (f s) (g s)) :=
  ⟨fun s hs => by have := h.1 s hs; have := h2.1 s hs; dsimp only; omega, fun s t ht hst => by have := h.2 s t ht hst; have := h2.2 s t ht hst; dsimp only; omega⟩
theorem sub_mono {p s t : Nat} (ht : t < 64) (hps : p &&& s = p) (hst : s &&& t = s) : p &&& t = p ∧ (s - p) &&& (t - p) = s - p := by
  have hpt : p &&& t = p := by rw [← hps, Nat.and_assoc, hst]
  refine ⟨hpt, ?_⟩
  rw [(pcn_sub (sub_lt ht hst) hps).2, (pcn_sub ht hpt).2]
  rw [show (s &&& (63 - p)) &&& (t &&& (63 - p)) = (s &&& t) &&& ((63 - p) &&& (63 - p)) by rw [Nat.and_assoc, Nat.and_assoc]; congr 1; rw [← Nat.and_assoc, Nat.and_comm (63 - p) t, Nat.and_assoc]]
  rw [hst, Nat.and_self]
theorem sub_diff {p s : Nat} (hs : s < 64) (h : p &&& s = p) : (s - p) &&& s = s - p := by
  rw [(pcn_sub hs h).2, Nat.and_assoc, Nat.and_comm (63 - p) s, ← Nat.and_assoc, Nat.and_self]
theorem tb_jn {f g : Nat → Int} (hf : tb_ok f) (hg : tb_ok g) : tb_ok (jn f g) := by
  refine ⟨fun s hs => ?_, fun s t ht hst => ?_⟩
  · obtain ⟨p, hp, e⟩ := jn_is f g hs
    have h1 := hf.1 p (sub_lt hs hp)
    have h2 := hg.1 (s - p) (by omega)
    have h3 := (pcn_sub hs hp).1
    rw [e]; omega
  · obtain ⟨p, hp, e⟩ := jn_is f g (sub_lt ht hst)
    obtain ⟨h1, h2⟩ := sub_mono ht hp hst
    have h3 := jn_ge f g ht h1
    have h4 := hg.2 (s - p) (t - p) (by omega) h2
    rw [e]; omega
theorem pr_num_b (T : Nat → Nat) (n : Nat) : ∀ k p v, (pr_num T n k p v).2 + 1 ≤ (v + 1) * 10 ^ k
  | 0, p, v => by simp [pr_num]
  | k + 1, p, v => by
    unfold pr_num
    split
    · rename_i h
      have h1 := pr_num_b T n k (p + 1) (v * 10 + (T p - 48))
      have h2 := pr_dg_lt h
      have h3 : (v * 10 + (T p - 48) + 1) * 10 ^ k ≤ ((v + 1) * 10) * 10 ^ k := Nat.mul_le_mul_right _ (by omega)
      rw [show (v + 1) * 10 ^ (k + 1) = ((v + 1) * 10) * 10 ^ k by rw [Nat.pow_succ, Nat.mul_assoc, Nat.mul_comm (10 ^ k) 10]]
      omega
    · show v + 1 ≤ _
      exact Nat.le_mul_of_pos_right _ (Nat.pow_pos (by decide))
theorem pr_num_999 (T : Nat → Nat) (n p : Nat) : (pr_num T n 3 p 0).2 ≤ 999 := by have := pr_num_b T n 3 p 0; omega
theorem pr_num_n (T : Nat → Nat) (n : Nat) : ∀ k p v, p ≤ n → (pr_num T n k p v).1 ≤ n
  | 0, p, v, h => h
  | k + 1, p, v, h => by
    unfold pr_num
    split
    · rename_i h2
      exact pr_num_n T n k (p + 1) _ (pr_dg_lt h2).1
    · exact h
theorem pr_let_n (T : Nat → Nat) (n : Nat) : ∀ k p v, p ≤ n → (pr_let T n k p v).1 ≤ n
  | 0, p, v, h => h
  | k + 1, p, v, h => by
    unfold pr_let
    split
    · rename_i h2
      exact pr_let_n T n k (p + 1) _ (pr_lt_lt h2.1).1
    · exact h
def pr_good (n : Nat) (r : pr_R) : Prop := r.1 ≤ n ∧ ∀ c v, r.2 = some (c, v) → c ≤ 12 ∧ tb_ok v
theorem pr_good_none {n q : Nat} (h : q ≤ n) : pr_good n (q, none) := ⟨h, fun _ _ z => by cases z⟩
theorem pr_good_some {n q c : Nat} {v : Nat → Int} (h : q ≤ n) (hc : c ≤ 12) (hv : tb_ok v) : pr_good n (q, some (c, v)) := ⟨h, fun _ _ z => by cases z; exact ⟨hc, hv⟩⟩
theorem pr_bundle_good {T : Nat → Nat} {n p c : Nat} (hp : p ≤ n) : pr_good n (pr_bundle T n p c) := by
  have h1 := pr_num_n T n 3 p 0 hp
  have h2 := pr_let_n T n 6 (pr_num T n 3 p 0).1 0 h1
  unfold pr_bundle
  split
  · exact pr_good_none hp
  · split
    · exact pr_good_none hp
    · split
      · exact pr_good_none h2
      · rename_i hc _ hm
        exact pr_good_some h2 (by omega) (tb_bun (pr_num_999 T n p) hm)
def pr_B (n : Nat) (B : Option (Nat → Nat → pr_R)) : Prop := ∀ f, B = some f → ∀ p c, p ≤ n → c ≤ 12 → pr_good n (f p c)
theorem pr_atom_good {T : Nat → Nat} {n : Nat} {B : Option (Nat → Nat → pr_R)} (hB : pr_B n B) {p c : Nat} (hp : p ≤ n) (hc : c ≤ 12) : pr_good n (pr_atom T n B p c) := by
  unfold pr_atom
  split
  · exact pr_bundle_good hp
  · rename_i h
    have hp1 : p < n := (pr_se_lt (by simpa using h)).1
    cases B with
    | none => exact pr_good_none hp
    | some f =>
      have hg := hB f rfl (p + 1) c hp1 hc
      dsimp only
      cases hr : f (p + 1) c with
      | mk q o =>
        rw [hr] at hg
        cases o with
        | none => exact pr_good_none hg.1
        | some r =>
          dsimp only
          split
          · rename_i h2
            exact ⟨(pr_se_lt h2).1, hg.2⟩
          · exact pr_good_none hg.1
theorem pr_capl_good {T : Nat → Nat} {n : Nat} : ∀ (k p c : Nat) (v : Nat → Int), p ≤ n → c ≤ 12 → tb_ok v → pr_good n (pr_capl T n k p c v)
  | 0, p, c, v, hp, _, _ => pr_good_none hp
  | k + 1, p, c, v, hp, hc, hv => by
    unfold pr_capl
    split
    · exact pr_good_some hp hc hv
    · rename_i h
      have hp1 : p < n := (pr_se_lt (by simpa using h)).1
      split
      · exact pr_good_none hp
      · split
        · exact pr_good_none hp1
        · exact pr_capl_good k _ _ _ (pr_num_n T n 3 (p + 1) 0 hp1) (by omega) (tb_min hv)
theorem pr_cap_good {T : Nat → Nat} {n : Nat} {B : Option (Nat → Nat → pr_R)} (hB : pr_B n B) {p c : Nat} (hp : p ≤ n) (hc : c ≤ 12) : pr_good n (pr_cap T n B p c) := by
  have hg := pr_atom_good (T := T) hB hp hc
  unfold pr_cap
  cases hr : pr_atom T n B p c with
  | mk q o =>
    rw [hr] at hg
    cases o with
    | none => exact pr_good_none hg.1
    | some r => exact pr_capl_good 13 q r.1 r.2 hg.1 (hg.2 r.1 r.2 rfl).1 (hg.2 r.1 r.2 rfl).2
theorem pr_suml_good {T : Nat → Nat} {n : Nat} {B : Option (Nat → Nat → pr_R)} (hB : pr_B n B) : ∀ (k p c : Nat) (v : Nat → Int), p ≤ n → c ≤ 12 → tb_ok v → pr_good n (pr_suml T n B k p c v)
  | 0, p, c, v, hp, _, _ => pr_good_none hp
  | k + 1, p, c, v, hp, hc, hv => by
    have hg := pr_cap_good (T := T) hB hp hc
    unfold pr_suml
    cases hr : pr_cap T n B p c with
    | mk q o =>
      rw [hr] at hg
      cases o with
      | none => exact pr_good_none hg.1
      | some r =>
        have h1 := hg.2 r.1 r.2 rfl
        dsimp only
        split
        · exact pr_good_some hg.1 h1.1 (tb_jn hv h1.2)
        · rename_i h
          have hp1 : q < n := (pr_se_lt (by simpa using h)).1
          split
          · exact pr_good_none hg.1
          · exact pr_suml_good hB k _ _ _ hp1 (by omega) (tb_jn hv h1.2)
theorem pr_bidl_good {T : Nat → Nat} {n : Nat} {B : Option (Nat → Nat → pr_R)} (hB : pr_B n B) : ∀ (k p c : Nat) (v : Nat → Int), p ≤ n → c ≤ 12 → tb_ok v → pr_good n (pr_bidl T n B k p c v)
  | 0, p, c, v, hp, _, _ => pr_good_none hp
  | k + 1, p, c, v, hp, hc, hv => by
    have hg : pr_good n (pr_sum T n B p c) := pr_suml_good hB 13 p c _ hp hc tb_0
    unfold pr_bidl
    cases hr : pr_sum T n B p c with
    | mk q o =>
      rw [hr] at hg
      cases o with
      | none => exact pr_good_none hg.1
      | some r =>
        have h1 := hg.2 r.1 r.2 rfl
        dsimp only
        split
        · exact pr_good_some hg.1 h1.1 (tb_max hv h1.2)
        · rename_i h
          have hp1 : q < n := (pr_se_lt (by simpa using h)).1
          split
          · exact pr_good_none hg.1
          · exact pr_bidl_good hB k _ _ _ hp1 (by omega) (tb_max hv h1.2)
theorem pr_bidk_good {T : Nat → Nat} {n : Nat} : ∀ k p c, p ≤ n → c ≤ 12 → pr_good n (pr_bidk T n k p c)
  | 0, p, c, hp, hc => pr_bidl_good (fun f z => by cases z) 13 p c _ hp hc tb_0
  | k + 1, p, c, hp, hc => pr_bidl_good (fun f z => by cases z; exact fun p c hp hc => pr_bidk_good k p c hp hc) 13 p c _ hp hc tb_0
/-- what a reading leaves: the place, and what was read; all else but the reader's own rows -/
def rdF (kc ks : Nat) (d d' : am_D) : Prop := (∀ a, a ≠ 13 → a ≠ 15 → ¬ (17 + kc ≤ a ∧ a < 26) → ¬ (27 + ks ≤ a ∧ a < 36) → d' a = d a) ∧ ∀ j, j ≠ 2 → j ≠ 3 → j ≠ 4 → d' 13 j = d 13 j
theorem rdF.rf {kc ks : Nat} {d : am_D} : rdF kc ks d d := ⟨fun _ _ _ _ _ => rfl, fun _ _ _ _ => rfl⟩
theorem rdF.tr {kc ks : Nat} {d d1 d2 : am_D} (h : rdF kc ks d d1) (h2 : rdF kc ks d1 d2) : rdF kc ks d d2 := ⟨fun a z1 z2 z3 z4 => (h2.1 a z1 z2 z3 z4).trans (h.1 a z1 z2 z3 z4), fun j z1 z2 z3 => (h2.2 j z1 z2 z3).trans (h.2 j z1 z2 z3)⟩
theorem rdF.wd {kc ks kc' ks' : Nat} {d d' : am_D} (h : rdF kc' ks' d d') (h1 : kc ≤ kc') (h2 : ks ≤ ks') : rdF kc ks d d' := ⟨fun a z1 z2 z3 z4 => h.1 a z1 z2 (by omega) (by omega), h.2⟩
theorem rdF.u {kc ks : Nat} {d : am_D} {j : Nat} {v : Int32} (hj : j = 2 ∨ j = 3 ∨ j = 4) : rdF kc ks d (am_u d 13 j v) := ⟨fun a z _ _ _ => am_u_ne a z, fun i z1 z2 z3 => am_u_o (fun z => by omega)⟩
theorem rdF.t15 {kc ks k : Nat} {d : am_D} {F : Nat → Int32} : rdF kc ks d (am_tb d 15 k F) := ⟨fun a _ z _ _ => am_tb_ne z, fun i _ _ _ => congrFun (am_tb_ne (by decide)) i⟩
theorem rdF.rn {kc ks : Nat} {d : am_D} {p : Nat} {v : Int32} : rdF kc ks d (rnD d p v) := (rdF.u (by decide)).tr (rdF.u (by decide))
theorem rdF.ok {kc ks : Nat} {d d' : am_D} {T : Nat → Nat} {n : Nat} (h : rdF kc ks d d') (hr : rd_ok d T n) : rd_ok d' T n := hr.to (h.2 1 (by decide) (by decide) (by decide)) (h.1 14 (by decide) (by decide) (by omega) (by omega))
def rdQ (kc ks : Nat) (d : am_D) (r : pr_R) : Option Value → am_D → Prop := fun ret d' => ret = some (.int (bI r.2.isSome)) ∧ d' 13 2 = nI r.1 ∧ rdF kc ks d d' ∧ ∀ c v, r.2 = some (c, v) → d' 13 4 = nI c ∧ ∀ s, s < 64 → d' 15 s = zI (v s)
