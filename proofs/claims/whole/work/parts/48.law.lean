/-- the class and the reference hold one state of the house -/
def IV (d : am_D) : Prop := ∃ (cash esc pd pt ow : Nat → Int32) (res : Nat → Int) (wt : Nat → Nat → Int) (T : Nat → Nat) (n : Nat) (se : Int32) (cl : Bool), RA cash esc pd pt ow res wt T n se cl d ∧ RM cash esc pd pt ow res wt T n se cl d
theorem IV_0 {d0 d : am_D} (hz : Zd 53 d0 d) (h37 : ∀ s, s < 64 → d 37 s = zI (rk s)) : IV d := by
  have z : ∀ a, a < 53 → a ≠ 7 → a ≠ 16 → a ≠ 26 → a ≠ 37 → ∀ j, d a j = 0 := hz.2
  refine ⟨fun _ => 0, fun _ => 0, fun _ => 0, fun _ => 0, fun _ => 0, fun _ => 0, fun _ _ => 0, fun _ => 0, 0, 0, false, ⟨?_, ?_, ?_, ?_, ?_, ?_, ?_, ?_, ?_, ?_, h37⟩, ⟨?_, ?_, ?_, ?_, ?_, ?_, ?_, ?_, ?_, ?_⟩⟩
  · exact fun b _ => z 1 (by decide) (by decide) (by decide) (by decide) (by decide) b
  · exact fun b _ => z 2 (by decide) (by decide) (by decide) (by decide) (by decide) b
  · exact fun b _ => z 5 (by decide) (by decide) (by decide) (by decide) (by decide) b
  · exact fun b _ => z 6 (by decide) (by decide) (by decide) (by decide) (by decide) b
  · exact fun b _ => z 4 (by decide) (by decide) (by decide) (by decide) (by decide) b
  · exact fun b _ => ⟨z 3 (by decide) (by decide) (by decide) (by decide) (by decide) b, (by show (0 : Int) ≤ 0; decide), (by show (0 : Int) ≤ 999; decide)⟩
  · exact fun b hb => ⟨tb_0, fun s _ => z (8 + b) (by omega) (by omega) (by omega) (by omega) (by omega) s⟩
  · exact ⟨z 13 (by decide) (by decide) (by decide) (by decide) (by decide) 1, by decide, fun j hj => by omega⟩
  · exact z 0 (by decide) (by decide) (by decide) (by decide) (by decide) 9
  · exact z 0 (by decide) (by decide) (by decide) (by decide) (by decide) 10
  · exact fun b _ => z 41 (by decide) (by decide) (by decide) (by decide) (by decide) b
  · exact fun b _ => z 42 (by decide) (by decide) (by decide) (by decide) (by decide) b
  · exact fun b _ => z 52 (by decide) (by decide) (by decide) (by decide) (by decide) b
  · exact fun b _ => z 46 (by decide) (by decide) (by decide) (by decide) (by decide) b
  · exact fun b _ => z 51 (by decide) (by decide) (by decide) (by decide) (by decide) b
  · exact fun b _ => ⟨z 43 (by decide) (by decide) (by decide) (by decide) (by decide) b, (by show (0 : Int) ≤ 0; decide), (by show (0 : Int) ≤ 999; decide)⟩
  · exact fun b hb => ⟨tb_0, fun s _ => z 45 (by decide) (by decide) (by decide) (by decide) (by decide) _⟩
  · exact ⟨z 40 (by decide) (by decide) (by decide) (by decide) (by decide) 5, by decide, fun j hj => by omega⟩
  · exact z 40 (by decide) (by decide) (by decide) (by decide) (by decide) 3
  · exact z 40 (by decide) (by decide) (by decide) (by decide) (by decide) 0
theorem am_Wb {l : Launch} {C : am_Cfg} {x : am_X} {dep bc bs bc' bs' pc : Nat} {mi : am_M} {L : List (Option Value)} {st : List Value} {S : am_S} {nn : Nat} {d : am_D} {Q : Option Value → am_S → Nat → am_D → Prop} (h1 : bc' ≤ bc) (h2 : bs' ≤ bs) (kk : am_W l C x dep bc' bs' mi pc L st S nn d Q) : am_W l C x dep bc bs mi pc L st S nn d Q := by
  intro p e s m args below meth c H locs cells slots mc ms ls hC
  exact kk p e s m args below meth c H locs cells slots mc ms ls ⟨hC.1, hC.2.1, hC.2.2.1, Nat.le_trans (Nat.add_le_add_left h1 _) hC.2.2.2.1, Nat.le_trans (Nat.add_le_add_left h2 _) hC.2.2.2.2.1, hC.2.2.2.2.2⟩
theorem and31 (y : Int32) : ∃ k, k ≤ 31 ∧ y &&& 31 = nI k := by
  have e : y = nI y.toBitVec.toNat := by
    apply Int32.toBitVec_inj.mp
    show y.toBitVec = BitVec.ofNat 32 y.toBitVec.toNat
    simp
  refine ⟨y.toBitVec.toNat &&& 31, Nat.and_le_right, ?_⟩
  have h := nI_and y.toBitVec.toNat 31
  rw [← e] at h
  exact h
theorem both_fund {l : Launch} {x : am_X} {e L : Nat} {d : am_D} (hI : IV d) (v m : Int32) : ∃ z, cM l x (e + 41) L m_A_fund [.ref 0, .int v, .int m] d (fun r d1 => r = some (.int z) ∧ d1 1000 = d 1000 ∧ cM l x (e + 41) L m_M_fund [.ref 40, .int v, .int m] d1 (fun r d2 => r = some (.int z) ∧ IV d2)) := by
  obtain ⟨cash, esc, pd, pt, ow, res, wt, T, n, se, cl, hA, hM⟩ := hI
  refine ⟨if fundOk cash esc v m then 1 else 0, (c_A_fund hA v m).mono ?_⟩
  rintro _ d1 ⟨rfl, hA1, hf1⟩
  refine ⟨rfl, hf1 1000 (by decide), (c_M_fund (RA.M hM hf1) v m).mono ?_⟩
  rintro _ d2 ⟨rfl, hM2, hf2⟩
  exact ⟨rfl, _, _, _, _, _, _, _, _, _, _, _, RM.A hA1 hf2, hM2⟩
theorem both_deposit {l : Launch} {x : am_X} {e L : Nat} {d : am_D} (hI : IV d) (v m : Int32) : ∃ z, cM l x (e + 41) L m_A_deposit [.ref 0, .int v, .int m] d (fun r d1 => r = some (.int z) ∧ d1 1000 = d 1000 ∧ cM l x (e + 41) L m_M_deposit [.ref 40, .int v, .int m] d1 (fun r d2 => r = some (.int z) ∧ IV d2)) := by
  obtain ⟨cash, esc, pd, pt, ow, res, wt, T, n, se, cl, hA, hM⟩ := hI
  refine ⟨if depOk cash cl v m then 1 else 0, (c_A_deposit hA v m).mono ?_⟩
  rintro _ d1 ⟨rfl, hA1, hf1⟩
  refine ⟨rfl, hf1 1000 (by decide), (c_M_deposit (RA.M hM hf1) v m).mono ?_⟩
  rintro _ d2 ⟨rfl, hM2, hf2⟩
  exact ⟨rfl, _, _, _, _, _, _, _, _, _, _, _, RM.A hA1 hf2, hM2⟩
theorem both_withdraw {l : Launch} {x : am_X} {e L : Nat} {d : am_D} (hI : IV d) (v : Int32) : ∃ z, cM l x (e + 41) L m_A_withdraw [.ref 0, .int v] d (fun r d1 => r = some (.int z) ∧ d1 1000 = d 1000 ∧ cM l x (e + 41) L m_M_withdraw [.ref 40, .int v] d1 (fun r d2 => r = some (.int z) ∧ IV d2)) := by
  obtain ⟨cash, esc, pd, pt, ow, res, wt, T, n, se, cl, hA, hM⟩ := hI
  refine ⟨if opB cl v then 1 else 0, (c_A_withdraw hA v).mono ?_⟩
  rintro _ d1 ⟨rfl, hA1, hf1⟩
  refine ⟨rfl, hf1 1000 (by decide), (c_M_withdraw (RA.M hM hf1) v).mono ?_⟩
  rintro _ d2 ⟨rfl, hM2, hf2⟩
  exact ⟨rfl, _, _, _, _, _, _, _, _, _, _, _, RM.A hA1 hf2, hM2⟩
theorem both_reserve {l : Launch} {x : am_X} {e L : Nat} {d : am_D} (hI : IV d) (v m : Int32) : ∃ z, cM l x (e + 41) L m_A_reserve [.ref 0, .int v, .int m] d (fun r d1 => r = some (.int z) ∧ d1 1000 = d 1000 ∧ cM l x (e + 41) L m_M_reserve [.ref 40, .int v, .int m] d1 (fun r d2 => r = some (.int z) ∧ IV d2)) := by
  obtain ⟨cash, esc, pd, pt, ow, res, wt, T, n, se, cl, hA, hM⟩ := hI
  refine ⟨if resOk cl v m then 1 else 0, (c_A_reserve hA v m).mono ?_⟩
  rintro _ d1 ⟨rfl, hA1, hf1⟩
  refine ⟨rfl, hf1 1000 (by decide), (c_M_reserve (RA.M hM hf1) v m).mono ?_⟩
  rintro _ d2 ⟨rfl, hM2, hf2⟩
  exact ⟨rfl, _, _, _, _, _, _, _, _, _, _, _, RM.A hA1 hf2, hM2⟩
theorem both_type {l : Launch} {x : am_X} {e L : Nat} {d : am_D} (hI : IV d) (v : Int32) : ∃ z, cM l x (e + 41) L m_A_type [.ref 0, .int v] d (fun r d1 => r = some (.int z) ∧ d1 1000 = d 1000 ∧ cM l x (e + 41) L m_M_type [.ref 40, .int v] d1 (fun r d2 => r = some (.int z) ∧ IV d2)) := by
  obtain ⟨cash, esc, pd, pt, ow, res, wt, T, n, se, cl, hA, hM⟩ := hI
  refine ⟨if tyNo n v then 0 else 1, (c_A_type hA v).mono ?_⟩
  rintro _ d1 ⟨rfl, hA1, hf1⟩
  refine ⟨rfl, hf1 1000 (by decide), (c_M_type (RA.M hM hf1) v).mono ?_⟩
  rintro _ d2 ⟨rfl, hM2, hf2⟩
  exact ⟨rfl, _, _, _, _, _, _, _, _, _, _, _, RM.A hA1 hf2, hM2⟩
theorem both_submit {l : Launch} {x : am_X} {e L : Nat} {d : am_D} (hI : IV d) (v : Int32) : ∃ z, cM l x (e + 41) L m_A_submit [.ref 0, .int v] d (fun r d1 => r = some (.int z) ∧ d1 1000 = d 1000 ∧ cM l x (e + 41) L m_M_submit [.ref 40, .int v] d1 (fun r d2 => r = some (.int z) ∧ IV d2)) := by
  obtain ⟨cash, esc, pd, pt, ow, res, wt, T, n, se, cl, hA, hM⟩ := hI
  refine ⟨subA esc cl T n v, (c_A_submit hA v).mono ?_⟩
  rintro _ d1 ⟨rfl, hA1, hf1⟩
  refine ⟨rfl, hf1 1000 (by decide), (c_M_submit (RA.M hM hf1) v).mono ?_⟩
  rintro _ d2 ⟨rfl, hM2, hf2⟩
  exact ⟨rfl, _, _, _, _, _, _, _, _, _, _, _, RM.A hA1 hf2, hM2⟩
theorem both_worth {l : Launch} {x : am_X} {e L : Nat} {d : am_D} (hI : IV d) (v m : Int32) : ∃ z, cM l x (e + 41) L m_A_worth [.ref 0, .int v, .int m] d (fun r d1 => r = some (.int z) ∧ d1 1000 = d 1000 ∧ cM l x (e + 41) L m_M_worth [.ref 40, .int v, .int m] d1 (fun r d2 => r = some (.int z) ∧ IV d2)) := by
  obtain ⟨cash, esc, pd, pt, ow, res, wt, T, n, se, cl, hA, hM⟩ := hI
  refine ⟨if woOk v m then zI (wt (cN v) (cN m)) else -2, (c_A_worth hA v m).mono ?_⟩
  rintro _ d1 ⟨rfl, hA1, hf1⟩
  refine ⟨rfl, hf1 1000 (by decide), (c_M_worth (RA.M hM hf1) v m).mono ?_⟩
  rintro _ d2 ⟨rfl, hM2, hf2⟩
  exact ⟨rfl, _, _, _, _, _, _, _, _, _, _, _, RM.A hA1 hf2, hM2⟩
theorem both_parts {l : Launch} {x : am_X} {e L : Nat} {d : am_D} (hI : IV d) (v : Int32) : ∃ z, cM l x (e + 41) L m_A_parts [.ref 0, .int v] d (fun r d1 => r = some (.int z) ∧ d1 1000 = d 1000 ∧ cM l x (e + 41) L m_M_parts [.ref 40, .int v] d1 (fun r d2 => r = some (.int z) ∧ IV d2)) := by
  obtain ⟨cash, esc, pd, pt, ow, res, wt, T, n, se, cl, hA, hM⟩ := hI
  refine ⟨if isB v then pt (cN v) else -2, (c_A_parts hA v).mono ?_⟩
  rintro _ d1 ⟨rfl, hA1, hf1⟩
  refine ⟨rfl, hf1 1000 (by decide), (c_M_parts (RA.M hM hf1) v).mono ?_⟩
  rintro _ d2 ⟨rfl, hM2, hf2⟩
  exact ⟨rfl, _, _, _, _, _, _, _, _, _, _, _, RM.A hA1 hf2, hM2⟩
theorem both_welfare {l : Launch} {x : am_X} {e L : Nat} {d : am_D} (hI : IV d) (v : Int32) : ∃ z, cM l x (e + 41) L m_A_welfare [.ref 0, .int v] d (fun r d1 => r = some (.int z) ∧ d1 1000 = d 1000 ∧ cM l x (e + 41) L m_M_welfare [.ref 40, .int v] d1 (fun r d2 => r = some (.int z) ∧ IV d2)) := by
  obtain ⟨cash, esc, pd, pt, ow, res, wt, T, n, se, cl, hA, hM⟩ := hI
  refine ⟨if v = -1 ∨ isB v then zI (wf wt res v.toInt) else -2, (c_A_welfare hA v).mono ?_⟩
  rintro _ d1 ⟨rfl, hA1, hf1⟩
  refine ⟨rfl, hf1 1000 (by decide), (c_M_welfare (RA.M hM hf1) v).mono ?_⟩
  rintro _ d2 ⟨rfl, hM2, hf2⟩
  exact ⟨rfl, _, _, _, _, _, _, _, _, _, _, _, RM.A hA1 hf2, hM2⟩
theorem both_close {l : Launch} {x : am_X} {e L : Nat} {d : am_D} (hI : IV d) : ∃ z, cM l x (e + 41) L m_A_close [.ref 0] d (fun r d1 => r = some (.int z) ∧ d1 1000 = d 1000 ∧ cM l x (e + 41) L m_M_close [.ref 40] d1 (fun r d2 => r = some (.int z) ∧ IV d2)) := by
  obtain ⟨cash, esc, pd, pt, ow, res, wt, T, n, se, cl, hA, hM⟩ := hI
  refine ⟨if cl = false then zI (wf wt res (-1)) else -2, (c_A_close hA).mono ?_⟩
  rintro _ d1 ⟨rfl, hA1, hf1⟩
  refine ⟨rfl, hf1 1000 (by decide), (c_M_close (RA.M hM hf1)).mono ?_⟩
  rintro _ d2 ⟨rfl, hM2, hf2⟩
  exact ⟨rfl, _, _, _, _, _, _, _, _, _, _, _, RM.A hA1 hf2, hM2⟩
theorem both_reopen {l : Launch} {x : am_X} {e L : Nat} {d : am_D} (hI : IV d) : ∃ z, cM l x (e + 41) L m_A_reopen [.ref 0] d (fun r d1 => r = some (.int z) ∧ d1 1000 = d 1000 ∧ cM l x (e + 41) L m_M_reopen [.ref 40] d1 (fun r d2 => r = some (.int z) ∧ IV d2)) := by
  obtain ⟨cash, esc, pd, pt, ow, res, wt, T, n, se, cl, hA, hM⟩ := hI
  refine ⟨bI cl, (c_A_reopen hA).mono ?_⟩
  rintro _ d1 ⟨rfl, hA1, hf1⟩
  refine ⟨rfl, hf1 1000 (by decide), (c_M_reopen (RA.M hM hf1)).mono ?_⟩
  rintro _ d2 ⟨rfl, hM2, hf2⟩
  exact ⟨rfl, _, _, _, _, _, _, _, _, _, _, _, RM.A hA1 hf2, hM2⟩
theorem both_owner {l : Launch} {x : am_X} {e L : Nat} {d : am_D} (hI : IV d) (v : Int32) : ∃ z, cM l x (e + 41) L m_A_owner [.ref 0, .int v] d (fun r d1 => r = some (.int z) ∧ d1 1000 = d 1000 ∧ cM l x (e + 41) L m_M_owner [.ref 40, .int v] d1 (fun r d2 => r = some (.int z) ∧ IV d2)) := by
  obtain ⟨cash, esc, pd, pt, ow, res, wt, T, n, se, cl, hA, hM⟩ := hI
  refine ⟨if clI cl v then ow (cN v) else -2, (c_A_owner hA v).mono ?_⟩
  rintro _ d1 ⟨rfl, hA1, hf1⟩
  refine ⟨rfl, hf1 1000 (by decide), (c_M_owner (RA.M hM hf1) v).mono ?_⟩
  rintro _ d2 ⟨rfl, hM2, hf2⟩
  exact ⟨rfl, _, _, _, _, _, _, _, _, _, _, _, RM.A hA1 hf2, hM2⟩
theorem both_paid {l : Launch} {x : am_X} {e L : Nat} {d : am_D} (hI : IV d) (v : Int32) : ∃ z, cM l x (e + 41) L m_A_paid [.ref 0, .int v] d (fun r d1 => r = some (.int z) ∧ d1 1000 = d 1000 ∧ cM l x (e + 41) L m_M_paid [.ref 40, .int v] d1 (fun r d2 => r = some (.int z) ∧ IV d2)) := by
  obtain ⟨cash, esc, pd, pt, ow, res, wt, T, n, se, cl, hA, hM⟩ := hI
  refine ⟨if clB cl v then pd (cN v) else -2, (c_A_paid hA v).mono ?_⟩
  rintro _ d1 ⟨rfl, hA1, hf1⟩
  refine ⟨rfl, hf1 1000 (by decide), (c_M_paid (RA.M hM hf1) v).mono ?_⟩
  rintro _ d2 ⟨rfl, hM2, hf2⟩
  exact ⟨rfl, _, _, _, _, _, _, _, _, _, _, _, RM.A hA1 hf2, hM2⟩
theorem both_cash {l : Launch} {x : am_X} {e L : Nat} {d : am_D} (hI : IV d) (v : Int32) : ∃ z, cM l x (e + 41) L m_A_cash [.ref 0, .int v] d (fun r d1 => r = some (.int z) ∧ d1 1000 = d 1000 ∧ cM l x (e + 41) L m_M_cash [.ref 40, .int v] d1 (fun r d2 => r = some (.int z) ∧ IV d2)) := by
  obtain ⟨cash, esc, pd, pt, ow, res, wt, T, n, se, cl, hA, hM⟩ := hI
  refine ⟨if isB v then cash (cN v) else -2, (c_A_cash hA v).mono ?_⟩
  rintro _ d1 ⟨rfl, hA1, hf1⟩
  refine ⟨rfl, hf1 1000 (by decide), (c_M_cash (RA.M hM hf1) v).mono ?_⟩
  rintro _ d2 ⟨rfl, hM2, hf2⟩
  exact ⟨rfl, _, _, _, _, _, _, _, _, _, _, _, RM.A hA1 hf2, hM2⟩
theorem both_escrow {l : Launch} {x : am_X} {e L : Nat} {d : am_D} (hI : IV d) (v : Int32) : ∃ z, cM l x (e + 41) L m_A_escrow [.ref 0, .int v] d (fun r d1 => r = some (.int z) ∧ d1 1000 = d 1000 ∧ cM l x (e + 41) L m_M_escrow [.ref 40, .int v] d1 (fun r d2 => r = some (.int z) ∧ IV d2)) := by
  obtain ⟨cash, esc, pd, pt, ow, res, wt, T, n, se, cl, hA, hM⟩ := hI
  refine ⟨if isB v then esc (cN v) else -2, (c_A_escrow hA v).mono ?_⟩
  rintro _ d1 ⟨rfl, hA1, hf1⟩
  refine ⟨rfl, hf1 1000 (by decide), (c_M_escrow (RA.M hM hf1) v).mono ?_⟩
  rintro _ d2 ⟨rfl, hM2, hf2⟩
  exact ⟨rfl, _, _, _, _, _, _, _, _, _, _, _, RM.A hA1 hf2, hM2⟩
theorem both_seller {l : Launch} {x : am_X} {e L : Nat} {d : am_D} (hI : IV d) : ∃ z, cM l x (e + 41) L m_A_seller [.ref 0] d (fun r d1 => r = some (.int z) ∧ d1 1000 = d 1000 ∧ cM l x (e + 41) L m_M_seller [.ref 40] d1 (fun r d2 => r = some (.int z) ∧ IV d2)) := by
  obtain ⟨cash, esc, pd, pt, ow, res, wt, T, n, se, cl, hA, hM⟩ := hI
  refine ⟨se, (c_A_seller hA).mono ?_⟩
  rintro _ d1 ⟨rfl, hA1, hf1⟩
  refine ⟨rfl, hf1 1000 (by decide), (c_M_seller (RA.M hM hf1)).mono ?_⟩
  rintro _ d2 ⟨rfl, hM2, hf2⟩
  exact ⟨rfl, _, _, _, _, _, _, _, _, _, _, _, RM.A hA1 hf2, hM2⟩
theorem both_state {l : Launch} {x : am_X} {e L : Nat} {d : am_D} (hI : IV d) : ∃ z, cM l x (e + 41) L m_A_state [.ref 0] d (fun r d1 => r = some (.int z) ∧ d1 1000 = d 1000 ∧ cM l x (e + 41) L m_M_state [.ref 40] d1 (fun r d2 => r = some (.int z) ∧ IV d2)) := by
  obtain ⟨cash, esc, pd, pt, ow, res, wt, T, n, se, cl, hA, hM⟩ := hI
  refine ⟨bI cl, (c_A_state hA).mono ?_⟩
  rintro _ d1 ⟨rfl, hA1, hf1⟩
  refine ⟨rfl, hf1 1000 (by decide), (c_M_state (RA.M hM hf1)).mono ?_⟩
  rintro _ d2 ⟨rfl, hM2, hf2⟩
  exact ⟨rfl, _, _, _, _, _, _, _, _, _, _, _, RM.A hA1 hf2, hM2⟩
set_option maxRecDepth 100000 in
set_option maxHeartbeats 8000000 in
theorem law_loop {l : Launch} {x : am_X} {e L : Nat} (hL : L ≤ 1536) : ∀ k i d, L + 1 ≤ i + k → i ≤ L → IV d → cW l x (e + 42) L m_L_law 18 [some (.ref 1000), some (.ref 0), some (.ref 40), some (.int (nI i))] [] d (fun r d' => r = some (.int 1)) := by
  intro k
  induction k with
  | zero =>
    intro i d hk hiL0 hI
    exact absurd hk (by omega)
  | succ k ih =>
    intro i d hk hiL0 hI
    refine am_go cd_L_law hc_L_law 10 2 (pc' := 20) (L' := [some (.ref 1000), some (.ref 0), some (.ref 40), some (.int (nI i))]) (st' := [.ref 1000, .int (nI i)]) rfl ?_
    refine am_alen (am_at hc_L_law 12 rfl) rfl (Or.inr (by decide)) rfl ?_
    refine am_go cd_L_law hc_L_law 13 2 (pc' := 23) (L' := [some (.ref 1000), some (.ref 0), some (.ref 40), some (.int (nI i))]) (st' := [.int (nI L - 3), .int (nI i)]) rfl ?_
    rw [show nI L - 3 = zI ((L : Int) - 3) from by rw [nI_zI, show (3 : Int32) = zI 3 from rfl, zI_sub]]
    rw [nI_zI i]
    refine am_icmp_gt 515 (am_at hc_L_law 15 rfl) (by decide) (fun q1 => ?_) (fun q1 => ?_)
    · skip
      refine am_go cd_L_law hc_L_law 315 1 (pc' := 516) (L' := [some (.ref 1000), some (.ref 0), some (.ref 40), some (.int (zI i))]) (st' := [.int 1]) rfl ?_
      exact am_iret (am_at hc_L_law 316 rfl) rfl rfl ⟨rfl, rfl, rfl⟩
    · have hiL : ¬ ((L : Int) - 3 < i) := fun z => q1 ((zI_lt (by omega) (by omega) (by omega) (by omega)).mpr z)
      have hi3 : i + 3 ≤ L := by omega
      rw [← nI_zI i]
      have LL : (SH L 1000).2.1 = L := rfl
      refine am_go cd_L_law hc_L_law 16 2 (pc' := 28) (L' := [some (.ref 1000), some (.ref 0), some (.ref 40), some (.int (nI i))]) (st' := [.int (nI i), .ref 1000]) rfl ?_
      refine am_iaload (i) (am_at hc_L_law 18 rfl) rfl (Or.inr (by decide)) rfl (by show i < L; omega) (by show L < 2147483648; omega) ?_
      refine am_go cd_L_law hc_L_law 19 2 (pc' := 32) (L' := [some (.ref 1000), some (.ref 0), some (.ref 40), some (.int (nI i))]) (st' := [.int (d 1000 i &&& 31)]) rfl ?_
      obtain ⟨o, ho, eo⟩ := and31 (d 1000 i)
      rw [eo]
      have eo2 : (nI o).toInt = o := by rw [nI_zI]; exact zI_toInt (by omega) (by omega)
      have next : ∀ d2, IV d2 → cW l x (e + 42) L m_L_law 509 [some (.ref 1000), some (.ref 0), some (.ref 40), some (.int (nI i))] [] d2 (fun r d' => r = some (.int 1)) := by
        intro d2 hI2
        refine am_go cd_L_law hc_L_law 313 2 (pc' := 18) (L' := [some (.ref 1000), some (.ref 0), some (.ref 40), some (.int (nI i + 3))]) (st' := []) rfl ?_
        rw [show nI i + 3 = nI (i + 3) from nI_add i 3]
        exact ih (i + 3) d2 (by omega) hi3 hI2
      by_cases h17 : 17 ≤ o
      · refine am_tableOut 509 (am_at hc_L_law 21 rfl) (Or.inr (by rw [eo2]; omega)) (by decide) ?_
        exact next d hI
      · have h : o = 0 ∨ o = 1 ∨ o = 2 ∨ o = 3 ∨ o = 4 ∨ o = 5 ∨ o = 6 ∨ o = 7 ∨ o = 8 ∨ o = 9 ∨ o = 10 ∨ o = 11 ∨ o = 12 ∨ o = 13 ∨ o = 14 ∨ o = 15 ∨ o = 16 := by omega
        rcases h with rfl | rfl | rfl | rfl | rfl | rfl | rfl | rfl | rfl | rfl | rfl | rfl | rfl | rfl | rfl | rfl | rfl
        · refine am_tableIn 116 (am_at hc_L_law 21 rfl) (by rw [eo2]; decide) (by rw [eo2]; decide) (off := 84) (by rw [eo2]; rfl) (by decide) ?_
          refine am_go cd_L_law hc_L_law 22 5 (pc' := 121) (L' := [some (.ref 1000), some (.ref 0), some (.ref 40), some (.int (nI i))]) (st' := [.int (nI i + 1), .ref 1000, .ref 0]) rfl ?_
          rw [show nI i + 1 = nI (i + 1) from (nI_add i 1)]
          refine am_iaload (i + 1) (am_at hc_L_law 27 rfl) rfl (Or.inr (by decide)) rfl (by show i + 1 < L; omega) (by show L < 2147483648; omega) ?_
          refine am_go cd_L_law hc_L_law 28 4 (pc' := 126) (L' := [some (.ref 1000), some (.ref 0), some (.ref 40), some (.int (nI i))]) (st' := [.int (nI i + 2), .ref 1000, .int (d 1000 (i + 1)), .ref 0]) rfl ?_
          rw [show nI i + 2 = nI (i + 2) from (nI_add i 2)]
          refine am_iaload (i + 2) (am_at hc_L_law 32 rfl) rfl (Or.inr (by decide)) rfl (by show i + 2 < L; omega) (by show L < 2147483648; omega) ?_
          skip
          obtain ⟨z, hzA⟩ := both_fund (l := l) (x := x) (e := e) (L := L) hI (d 1000 (i + 1)) (d 1000 (i + 2))
          refine cW.callV (st := []) [.int (d 1000 (i + 1)), .int (d 1000 (i + 2))] (am_at hc_L_law 33 rfl) g_A_fund (Or.inl (tw 109 rfl rfl)) (tw 110 rfl rfl) (tw 111 rfl rfl) 0 k_r0 rfl (by decide) rfl rfl rfl rfl (Nat.le_of_ble_eq_true rfl) hzA ?_
          rintro _ d1 ⟨rfl, h1000, hzM⟩
          show cW _ _ (e + 42) _ m_L_law 130 [some (.ref 1000), some (.ref 0), some (.ref 40), some (.int (nI i))] [.int z] _ _
          refine am_go cd_L_law hc_L_law 34 5 (pc' := 135) (L' := [some (.ref 1000), some (.ref 0), some (.ref 40), some (.int (nI i))]) (st' := [.int (nI i + 1), .ref 1000, .ref 40, .int z]) rfl ?_
          rw [show nI i + 1 = nI (i + 1) from (nI_add i 1)]
          refine am_iaload (i + 1) (am_at hc_L_law 39 rfl) rfl (Or.inr (by decide)) rfl (by show i + 1 < L; omega) (by show L < 2147483648; omega) ?_
          rw [show d1 1000 (i + 1) = d 1000 (i + 1) from congrFun h1000 _]
          refine am_go cd_L_law hc_L_law 40 4 (pc' := 140) (L' := [some (.ref 1000), some (.ref 0), some (.ref 40), some (.int (nI i))]) (st' := [.int (nI i + 2), .ref 1000, .int (d 1000 (i + 1)), .ref 40, .int z]) rfl ?_
          rw [show nI i + 2 = nI (i + 2) from (nI_add i 2)]
          refine am_iaload (i + 2) (am_at hc_L_law 44 rfl) rfl (Or.inr (by decide)) rfl (by show i + 2 < L; omega) (by show L < 2147483648; omega) ?_
          rw [show d1 1000 (i + 2) = d 1000 (i + 2) from congrFun h1000 _]
          refine cW.callV (st := [.int z]) [.int (d 1000 (i + 1)), .int (d 1000 (i + 2))] (am_at hc_L_law 45 rfl) g_M_fund (Or.inl (tw 364 rfl rfl)) (tw 365 rfl rfl) (tw 366 rfl rfl) 3 k_r3 rfl (by decide) rfl rfl rfl rfl (Nat.le_of_ble_eq_true rfl) hzM ?_
          rintro _ d2 ⟨rfl, hI2⟩
          show cW _ _ (e + 42) _ m_L_law 144 [some (.ref 1000), some (.ref 0), some (.ref 40), some (.int (nI i))] [.int z, .int z] _ _
          refine am_icmp_eq 509 (am_at hc_L_law 46 rfl) (by decide) (fun qe => ?_) (fun qe => absurd rfl qe)
          exact next d2 hI2
        · refine am_tableIn 149 (am_at hc_L_law 21 rfl) (by rw [eo2]; decide) (by rw [eo2]; decide) (off := 117) (by rw [eo2]; rfl) (by decide) ?_
          refine am_go cd_L_law hc_L_law 49 5 (pc' := 154) (L' := [some (.ref 1000), some (.ref 0), some (.ref 40), some (.int (nI i))]) (st' := [.int (nI i + 1), .ref 1000, .ref 0]) rfl ?_
          rw [show nI i + 1 = nI (i + 1) from (nI_add i 1)]
          refine am_iaload (i + 1) (am_at hc_L_law 54 rfl) rfl (Or.inr (by decide)) rfl (by show i + 1 < L; omega) (by show L < 2147483648; omega) ?_
          refine am_go cd_L_law hc_L_law 55 4 (pc' := 159) (L' := [some (.ref 1000), some (.ref 0), some (.ref 40), some (.int (nI i))]) (st' := [.int (nI i + 2), .ref 1000, .int (d 1000 (i + 1)), .ref 0]) rfl ?_
          rw [show nI i + 2 = nI (i + 2) from (nI_add i 2)]
          refine am_iaload (i + 2) (am_at hc_L_law 59 rfl) rfl (Or.inr (by decide)) rfl (by show i + 2 < L; omega) (by show L < 2147483648; omega) ?_
          skip
          obtain ⟨z, hzA⟩ := both_deposit (l := l) (x := x) (e := e) (L := L) hI (d 1000 (i + 1)) (d 1000 (i + 2))
          refine cW.callV (st := []) [.int (d 1000 (i + 1)), .int (d 1000 (i + 2))] (am_at hc_L_law 60 rfl) g_A_deposit (Or.inl (tw 118 rfl rfl)) (tw 119 rfl rfl) (tw 120 rfl rfl) 0 k_r0 rfl (by decide) rfl rfl rfl rfl (Nat.le_of_ble_eq_true rfl) hzA ?_
          rintro _ d1 ⟨rfl, h1000, hzM⟩
          show cW _ _ (e + 42) _ m_L_law 163 [some (.ref 1000), some (.ref 0), some (.ref 40), some (.int (nI i))] [.int z] _ _
          refine am_go cd_L_law hc_L_law 61 5 (pc' := 168) (L' := [some (.ref 1000), some (.ref 0), some (.ref 40), some (.int (nI i))]) (st' := [.int (nI i + 1), .ref 1000, .ref 40, .int z]) rfl ?_
          rw [show nI i + 1 = nI (i + 1) from (nI_add i 1)]
          refine am_iaload (i + 1) (am_at hc_L_law 66 rfl) rfl (Or.inr (by decide)) rfl (by show i + 1 < L; omega) (by show L < 2147483648; omega) ?_
          rw [show d1 1000 (i + 1) = d 1000 (i + 1) from congrFun h1000 _]
          refine am_go cd_L_law hc_L_law 67 4 (pc' := 173) (L' := [some (.ref 1000), some (.ref 0), some (.ref 40), some (.int (nI i))]) (st' := [.int (nI i + 2), .ref 1000, .int (d 1000 (i + 1)), .ref 40, .int z]) rfl ?_
          rw [show nI i + 2 = nI (i + 2) from (nI_add i 2)]
          refine am_iaload (i + 2) (am_at hc_L_law 71 rfl) rfl (Or.inr (by decide)) rfl (by show i + 2 < L; omega) (by show L < 2147483648; omega) ?_
          rw [show d1 1000 (i + 2) = d 1000 (i + 2) from congrFun h1000 _]
          refine cW.callV (st := [.int z]) [.int (d 1000 (i + 1)), .int (d 1000 (i + 2))] (am_at hc_L_law 72 rfl) g_M_deposit (Or.inl (tw 373 rfl rfl)) (tw 374 rfl rfl) (tw 375 rfl rfl) 3 k_r3 rfl (by decide) rfl rfl rfl rfl (Nat.le_of_ble_eq_true rfl) hzM ?_
          rintro _ d2 ⟨rfl, hI2⟩
          show cW _ _ (e + 42) _ m_L_law 177 [some (.ref 1000), some (.ref 0), some (.ref 40), some (.int (nI i))] [.int z, .int z] _ _
          refine am_icmp_eq 509 (am_at hc_L_law 73 rfl) (by decide) (fun qe => ?_) (fun qe => absurd rfl qe)
          exact next d2 hI2
        · refine am_tableIn 182 (am_at hc_L_law 21 rfl) (by rw [eo2]; decide) (by rw [eo2]; decide) (off := 150) (by rw [eo2]; rfl) (by decide) ?_
          refine am_go cd_L_law hc_L_law 76 5 (pc' := 187) (L' := [some (.ref 1000), some (.ref 0), some (.ref 40), some (.int (nI i))]) (st' := [.int (nI i + 1), .ref 1000, .ref 0]) rfl ?_
          rw [show nI i + 1 = nI (i + 1) from (nI_add i 1)]
          refine am_iaload (i + 1) (am_at hc_L_law 81 rfl) rfl (Or.inr (by decide)) rfl (by show i + 1 < L; omega) (by show L < 2147483648; omega) ?_
          skip
          obtain ⟨z, hzA⟩ := both_withdraw (l := l) (x := x) (e := e) (L := L) hI (d 1000 (i + 1))
          refine cW.callV (st := []) [.int (d 1000 (i + 1))] (am_at hc_L_law 82 rfl) g_A_withdraw (Or.inl (tw 122 rfl rfl)) (tw 123 rfl rfl) (tw 124 rfl rfl) 0 k_r0 rfl (by decide) rfl rfl rfl rfl (Nat.le_of_ble_eq_true rfl) hzA ?_
          rintro _ d1 ⟨rfl, h1000, hzM⟩
          show cW _ _ (e + 42) _ m_L_law 191 [some (.ref 1000), some (.ref 0), some (.ref 40), some (.int (nI i))] [.int z] _ _
          refine am_go cd_L_law hc_L_law 83 5 (pc' := 196) (L' := [some (.ref 1000), some (.ref 0), some (.ref 40), some (.int (nI i))]) (st' := [.int (nI i + 1), .ref 1000, .ref 40, .int z]) rfl ?_
          rw [show nI i + 1 = nI (i + 1) from (nI_add i 1)]
          refine am_iaload (i + 1) (am_at hc_L_law 88 rfl) rfl (Or.inr (by decide)) rfl (by show i + 1 < L; omega) (by show L < 2147483648; omega) ?_
          rw [show d1 1000 (i + 1) = d 1000 (i + 1) from congrFun h1000 _]
          refine cW.callV (st := [.int z]) [.int (d 1000 (i + 1))] (am_at hc_L_law 89 rfl) g_M_withdraw (Or.inl (tw 377 rfl rfl)) (tw 378 rfl rfl) (tw 379 rfl rfl) 3 k_r3 rfl (by decide) rfl rfl rfl rfl (Nat.le_of_ble_eq_true rfl) hzM ?_
          rintro _ d2 ⟨rfl, hI2⟩
          show cW _ _ (e + 42) _ m_L_law 200 [some (.ref 1000), some (.ref 0), some (.ref 40), some (.int (nI i))] [.int z, .int z] _ _
          refine am_icmp_eq 509 (am_at hc_L_law 90 rfl) (by decide) (fun qe => ?_) (fun qe => absurd rfl qe)
          exact next d2 hI2
        · refine am_tableIn 205 (am_at hc_L_law 21 rfl) (by rw [eo2]; decide) (by rw [eo2]; decide) (off := 173) (by rw [eo2]; rfl) (by decide) ?_
          refine am_go cd_L_law hc_L_law 93 5 (pc' := 210) (L' := [some (.ref 1000), some (.ref 0), some (.ref 40), some (.int (nI i))]) (st' := [.int (nI i + 1), .ref 1000, .ref 0]) rfl ?_
          rw [show nI i + 1 = nI (i + 1) from (nI_add i 1)]
          refine am_iaload (i + 1) (am_at hc_L_law 98 rfl) rfl (Or.inr (by decide)) rfl (by show i + 1 < L; omega) (by show L < 2147483648; omega) ?_
          refine am_go cd_L_law hc_L_law 99 4 (pc' := 215) (L' := [some (.ref 1000), some (.ref 0), some (.ref 40), some (.int (nI i))]) (st' := [.int (nI i + 2), .ref 1000, .int (d 1000 (i + 1)), .ref 0]) rfl ?_
          rw [show nI i + 2 = nI (i + 2) from (nI_add i 2)]
          refine am_iaload (i + 2) (am_at hc_L_law 103 rfl) rfl (Or.inr (by decide)) rfl (by show i + 2 < L; omega) (by show L < 2147483648; omega) ?_
          skip
          obtain ⟨z, hzA⟩ := both_reserve (l := l) (x := x) (e := e) (L := L) hI (d 1000 (i + 1)) (d 1000 (i + 2))
          refine cW.callV (st := []) [.int (d 1000 (i + 1)), .int (d 1000 (i + 2))] (am_at hc_L_law 104 rfl) g_A_reserve (Or.inl (tw 137 rfl rfl)) (tw 138 rfl rfl) (tw 139 rfl rfl) 0 k_r0 rfl (by decide) rfl rfl rfl rfl (Nat.le_of_ble_eq_true rfl) hzA ?_
          rintro _ d1 ⟨rfl, h1000, hzM⟩
          show cW _ _ (e + 42) _ m_L_law 219 [some (.ref 1000), some (.ref 0), some (.ref 40), some (.int (nI i))] [.int z] _ _
          refine am_go cd_L_law hc_L_law 105 5 (pc' := 224) (L' := [some (.ref 1000), some (.ref 0), some (.ref 40), some (.int (nI i))]) (st' := [.int (nI i + 1), .ref 1000, .ref 40, .int z]) rfl ?_
          rw [show nI i + 1 = nI (i + 1) from (nI_add i 1)]
          refine am_iaload (i + 1) (am_at hc_L_law 110 rfl) rfl (Or.inr (by decide)) rfl (by show i + 1 < L; omega) (by show L < 2147483648; omega) ?_
          rw [show d1 1000 (i + 1) = d 1000 (i + 1) from congrFun h1000 _]
          refine am_go cd_L_law hc_L_law 111 4 (pc' := 229) (L' := [some (.ref 1000), some (.ref 0), some (.ref 40), some (.int (nI i))]) (st' := [.int (nI i + 2), .ref 1000, .int (d 1000 (i + 1)), .ref 40, .int z]) rfl ?_
          rw [show nI i + 2 = nI (i + 2) from (nI_add i 2)]
          refine am_iaload (i + 2) (am_at hc_L_law 115 rfl) rfl (Or.inr (by decide)) rfl (by show i + 2 < L; omega) (by show L < 2147483648; omega) ?_
          rw [show d1 1000 (i + 2) = d 1000 (i + 2) from congrFun h1000 _]
          refine cW.callV (st := [.int z]) [.int (d 1000 (i + 1)), .int (d 1000 (i + 2))] (am_at hc_L_law 116 rfl) g_M_reserve (Or.inl (tw 385 rfl rfl)) (tw 386 rfl rfl) (tw 387 rfl rfl) 3 k_r3 rfl (by decide) rfl rfl rfl rfl (Nat.le_of_ble_eq_true rfl) hzM ?_
          rintro _ d2 ⟨rfl, hI2⟩
          show cW _ _ (e + 42) _ m_L_law 233 [some (.ref 1000), some (.ref 0), some (.ref 40), some (.int (nI i))] [.int z, .int z] _ _
          refine am_icmp_eq 509 (am_at hc_L_law 117 rfl) (by decide) (fun qe => ?_) (fun qe => absurd rfl qe)
          exact next d2 hI2
        · refine am_tableIn 238 (am_at hc_L_law 21 rfl) (by rw [eo2]; decide) (by rw [eo2]; decide) (off := 206) (by rw [eo2]; rfl) (by decide) ?_
          refine am_go cd_L_law hc_L_law 120 5 (pc' := 243) (L' := [some (.ref 1000), some (.ref 0), some (.ref 40), some (.int (nI i))]) (st' := [.int (nI i + 1), .ref 1000, .ref 0]) rfl ?_
          rw [show nI i + 1 = nI (i + 1) from (nI_add i 1)]
          refine am_iaload (i + 1) (am_at hc_L_law 125 rfl) rfl (Or.inr (by decide)) rfl (by show i + 1 < L; omega) (by show L < 2147483648; omega) ?_
          refine am_go cd_L_law hc_L_law 126 1 (pc' := 245) (L' := [some (.ref 1000), some (.ref 0), some (.ref 40), some (.int (nI i))]) (st' := [.int (((d 1000 (i + 1)).toUInt32 % 65536).toInt32), .ref 0]) rfl ?_
          skip
          obtain ⟨z, hzA⟩ := both_type (l := l) (x := x) (e := e) (L := L) hI (((d 1000 (i + 1)).toUInt32 % 65536).toInt32)
          refine cW.callV (st := []) [.int (((d 1000 (i + 1)).toUInt32 % 65536).toInt32)] (am_at hc_L_law 127 rfl) g_A_type (Or.inl (tw 144 rfl rfl)) (tw 145 rfl rfl) (tw 146 rfl rfl) 0 k_r0 rfl (by decide) rfl rfl rfl rfl (Nat.le_of_ble_eq_true rfl) hzA ?_
          rintro _ d1 ⟨rfl, h1000, hzM⟩
          show cW _ _ (e + 42) _ m_L_law 248 [some (.ref 1000), some (.ref 0), some (.ref 40), some (.int (nI i))] [.int z] _ _
          refine am_go cd_L_law hc_L_law 128 5 (pc' := 253) (L' := [some (.ref 1000), some (.ref 0), some (.ref 40), some (.int (nI i))]) (st' := [.int (nI i + 1), .ref 1000, .ref 40, .int z]) rfl ?_
          rw [show nI i + 1 = nI (i + 1) from (nI_add i 1)]
          refine am_iaload (i + 1) (am_at hc_L_law 133 rfl) rfl (Or.inr (by decide)) rfl (by show i + 1 < L; omega) (by show L < 2147483648; omega) ?_
          rw [show d1 1000 (i + 1) = d 1000 (i + 1) from congrFun h1000 _]
          refine am_go cd_L_law hc_L_law 134 1 (pc' := 255) (L' := [some (.ref 1000), some (.ref 0), some (.ref 40), some (.int (nI i))]) (st' := [.int (((d 1000 (i + 1)).toUInt32 % 65536).toInt32), .ref 40, .int z]) rfl ?_
          refine cW.callV (st := [.int z]) [.int (((d 1000 (i + 1)).toUInt32 % 65536).toInt32)] (am_at hc_L_law 135 rfl) g_M_type (Or.inl (tw 389 rfl rfl)) (tw 390 rfl rfl) (tw 391 rfl rfl) 3 k_r3 rfl (by decide) rfl rfl rfl rfl (Nat.le_of_ble_eq_true rfl) hzM ?_
          rintro _ d2 ⟨rfl, hI2⟩
          show cW _ _ (e + 42) _ m_L_law 258 [some (.ref 1000), some (.ref 0), some (.ref 40), some (.int (nI i))] [.int z, .int z] _ _
          refine am_icmp_eq 509 (am_at hc_L_law 136 rfl) (by decide) (fun qe => ?_) (fun qe => absurd rfl qe)
          exact next d2 hI2
        · refine am_tableIn 263 (am_at hc_L_law 21 rfl) (by rw [eo2]; decide) (by rw [eo2]; decide) (off := 231) (by rw [eo2]; rfl) (by decide) ?_
          refine am_go cd_L_law hc_L_law 139 5 (pc' := 268) (L' := [some (.ref 1000), some (.ref 0), some (.ref 40), some (.int (nI i))]) (st' := [.int (nI i + 1), .ref 1000, .ref 0]) rfl ?_
          rw [show nI i + 1 = nI (i + 1) from (nI_add i 1)]
          refine am_iaload (i + 1) (am_at hc_L_law 144 rfl) rfl (Or.inr (by decide)) rfl (by show i + 1 < L; omega) (by show L < 2147483648; omega) ?_
          skip
          obtain ⟨z, hzA⟩ := both_submit (l := l) (x := x) (e := e) (L := L) hI (d 1000 (i + 1))
          refine cW.callV (st := []) [.int (d 1000 (i + 1))] (am_at hc_L_law 145 rfl) g_A_submit (Or.inl (tw 152 rfl rfl)) (tw 153 rfl rfl) (tw 154 rfl rfl) 0 k_r0 rfl (by decide) rfl rfl rfl rfl (Nat.le_of_ble_eq_true rfl) hzA ?_
          rintro _ d1 ⟨rfl, h1000, hzM⟩
          show cW _ _ (e + 42) _ m_L_law 272 [some (.ref 1000), some (.ref 0), some (.ref 40), some (.int (nI i))] [.int z] _ _
          refine am_go cd_L_law hc_L_law 146 5 (pc' := 277) (L' := [some (.ref 1000), some (.ref 0), some (.ref 40), some (.int (nI i))]) (st' := [.int (nI i + 1), .ref 1000, .ref 40, .int z]) rfl ?_
          rw [show nI i + 1 = nI (i + 1) from (nI_add i 1)]
          refine am_iaload (i + 1) (am_at hc_L_law 151 rfl) rfl (Or.inr (by decide)) rfl (by show i + 1 < L; omega) (by show L < 2147483648; omega) ?_
          rw [show d1 1000 (i + 1) = d 1000 (i + 1) from congrFun h1000 _]
          refine cW.callV (st := [.int z]) [.int (d 1000 (i + 1))] (am_at hc_L_law 152 rfl) g_M_submit (Or.inl (tw 393 rfl rfl)) (tw 394 rfl rfl) (tw 395 rfl rfl) 3 k_r3 rfl (by decide) rfl rfl rfl rfl (Nat.le_of_ble_eq_true rfl) hzM ?_
          rintro _ d2 ⟨rfl, hI2⟩
          show cW _ _ (e + 42) _ m_L_law 281 [some (.ref 1000), some (.ref 0), some (.ref 40), some (.int (nI i))] [.int z, .int z] _ _
          refine am_icmp_eq 509 (am_at hc_L_law 153 rfl) (by decide) (fun qe => ?_) (fun qe => absurd rfl qe)
          exact next d2 hI2
        · refine am_tableIn 286 (am_at hc_L_law 21 rfl) (by rw [eo2]; decide) (by rw [eo2]; decide) (off := 254) (by rw [eo2]; rfl) (by decide) ?_
          refine am_go cd_L_law hc_L_law 156 5 (pc' := 291) (L' := [some (.ref 1000), some (.ref 0), some (.ref 40), some (.int (nI i))]) (st' := [.int (nI i + 1), .ref 1000, .ref 0]) rfl ?_
          rw [show nI i + 1 = nI (i + 1) from (nI_add i 1)]
          refine am_iaload (i + 1) (am_at hc_L_law 161 rfl) rfl (Or.inr (by decide)) rfl (by show i + 1 < L; omega) (by show L < 2147483648; omega) ?_
          refine am_go cd_L_law hc_L_law 162 4 (pc' := 296) (L' := [some (.ref 1000), some (.ref 0), some (.ref 40), some (.int (nI i))]) (st' := [.int (nI i + 2), .ref 1000, .int (d 1000 (i + 1)), .ref 0]) rfl ?_
          rw [show nI i + 2 = nI (i + 2) from (nI_add i 2)]
          refine am_iaload (i + 2) (am_at hc_L_law 166 rfl) rfl (Or.inr (by decide)) rfl (by show i + 2 < L; omega) (by show L < 2147483648; omega) ?_
          skip
          obtain ⟨z, hzA⟩ := both_worth (l := l) (x := x) (e := e) (L := L) hI (d 1000 (i + 1)) (d 1000 (i + 2))
          refine cW.callV (st := []) [.int (d 1000 (i + 1)), .int (d 1000 (i + 2))] (am_at hc_L_law 167 rfl) g_A_worth (Or.inl (tw 231 rfl rfl)) (tw 232 rfl rfl) (tw 233 rfl rfl) 0 k_r0 rfl (by decide) rfl rfl rfl rfl (Nat.le_of_ble_eq_true rfl) hzA ?_
          rintro _ d1 ⟨rfl, h1000, hzM⟩
          show cW _ _ (e + 42) _ m_L_law 300 [some (.ref 1000), some (.ref 0), some (.ref 40), some (.int (nI i))] [.int z] _ _
          refine am_go cd_L_law hc_L_law 168 5 (pc' := 305) (L' := [some (.ref 1000), some (.ref 0), some (.ref 40), some (.int (nI i))]) (st' := [.int (nI i + 1), .ref 1000, .ref 40, .int z]) rfl ?_
          rw [show nI i + 1 = nI (i + 1) from (nI_add i 1)]
          refine am_iaload (i + 1) (am_at hc_L_law 173 rfl) rfl (Or.inr (by decide)) rfl (by show i + 1 < L; omega) (by show L < 2147483648; omega) ?_
          rw [show d1 1000 (i + 1) = d 1000 (i + 1) from congrFun h1000 _]
          refine am_go cd_L_law hc_L_law 174 4 (pc' := 310) (L' := [some (.ref 1000), some (.ref 0), some (.ref 40), some (.int (nI i))]) (st' := [.int (nI i + 2), .ref 1000, .int (d 1000 (i + 1)), .ref 40, .int z]) rfl ?_
          rw [show nI i + 2 = nI (i + 2) from (nI_add i 2)]
          refine am_iaload (i + 2) (am_at hc_L_law 178 rfl) rfl (Or.inr (by decide)) rfl (by show i + 2 < L; omega) (by show L < 2147483648; omega) ?_
          rw [show d1 1000 (i + 2) = d 1000 (i + 2) from congrFun h1000 _]
          refine cW.callV (st := [.int z]) [.int (d 1000 (i + 1)), .int (d 1000 (i + 2))] (am_at hc_L_law 179 rfl) g_M_worth (Or.inl (tw 433 rfl rfl)) (tw 434 rfl rfl) (tw 435 rfl rfl) 3 k_r3 rfl (by decide) rfl rfl rfl rfl (Nat.le_of_ble_eq_true rfl) hzM ?_
          rintro _ d2 ⟨rfl, hI2⟩
          show cW _ _ (e + 42) _ m_L_law 314 [some (.ref 1000), some (.ref 0), some (.ref 40), some (.int (nI i))] [.int z, .int z] _ _
          refine am_icmp_eq 509 (am_at hc_L_law 180 rfl) (by decide) (fun qe => ?_) (fun qe => absurd rfl qe)
          exact next d2 hI2
        · refine am_tableIn 319 (am_at hc_L_law 21 rfl) (by rw [eo2]; decide) (by rw [eo2]; decide) (off := 287) (by rw [eo2]; rfl) (by decide) ?_
          refine am_go cd_L_law hc_L_law 183 5 (pc' := 324) (L' := [some (.ref 1000), some (.ref 0), some (.ref 40), some (.int (nI i))]) (st' := [.int (nI i + 1), .ref 1000, .ref 0]) rfl ?_
          rw [show nI i + 1 = nI (i + 1) from (nI_add i 1)]
          refine am_iaload (i + 1) (am_at hc_L_law 188 rfl) rfl (Or.inr (by decide)) rfl (by show i + 1 < L; omega) (by show L < 2147483648; omega) ?_
          skip
          obtain ⟨z, hzA⟩ := both_parts (l := l) (x := x) (e := e) (L := L) hI (d 1000 (i + 1))
          refine cW.callV (st := []) [.int (d 1000 (i + 1))] (am_at hc_L_law 189 rfl) g_A_parts (Or.inl (tw 235 rfl rfl)) (tw 236 rfl rfl) (tw 237 rfl rfl) 0 k_r0 rfl (by decide) rfl rfl rfl rfl (Nat.le_of_ble_eq_true rfl) hzA ?_
          rintro _ d1 ⟨rfl, h1000, hzM⟩
          show cW _ _ (e + 42) _ m_L_law 328 [some (.ref 1000), some (.ref 0), some (.ref 40), some (.int (nI i))] [.int z] _ _
          refine am_go cd_L_law hc_L_law 190 5 (pc' := 333) (L' := [some (.ref 1000), some (.ref 0), some (.ref 40), some (.int (nI i))]) (st' := [.int (nI i + 1), .ref 1000, .ref 40, .int z]) rfl ?_
          rw [show nI i + 1 = nI (i + 1) from (nI_add i 1)]
          refine am_iaload (i + 1) (am_at hc_L_law 195 rfl) rfl (Or.inr (by decide)) rfl (by show i + 1 < L; omega) (by show L < 2147483648; omega) ?_
          rw [show d1 1000 (i + 1) = d 1000 (i + 1) from congrFun h1000 _]
          refine cW.callV (st := [.int z]) [.int (d 1000 (i + 1))] (am_at hc_L_law 196 rfl) g_M_parts (Or.inl (tw 437 rfl rfl)) (tw 438 rfl rfl) (tw 439 rfl rfl) 3 k_r3 rfl (by decide) rfl rfl rfl rfl (Nat.le_of_ble_eq_true rfl) hzM ?_
          rintro _ d2 ⟨rfl, hI2⟩
          show cW _ _ (e + 42) _ m_L_law 337 [some (.ref 1000), some (.ref 0), some (.ref 40), some (.int (nI i))] [.int z, .int z] _ _
          refine am_icmp_eq 509 (am_at hc_L_law 197 rfl) (by decide) (fun qe => ?_) (fun qe => absurd rfl qe)
          exact next d2 hI2
        · refine am_tableIn 342 (am_at hc_L_law 21 rfl) (by rw [eo2]; decide) (by rw [eo2]; decide) (off := 310) (by rw [eo2]; rfl) (by decide) ?_
          refine am_go cd_L_law hc_L_law 200 5 (pc' := 347) (L' := [some (.ref 1000), some (.ref 0), some (.ref 40), some (.int (nI i))]) (st' := [.int (nI i + 1), .ref 1000, .ref 0]) rfl ?_
          rw [show nI i + 1 = nI (i + 1) from (nI_add i 1)]
          refine am_iaload (i + 1) (am_at hc_L_law 205 rfl) rfl (Or.inr (by decide)) rfl (by show i + 1 < L; omega) (by show L < 2147483648; omega) ?_
          skip
          obtain ⟨z, hzA⟩ := both_welfare (l := l) (x := x) (e := e) (L := L) hI (d 1000 (i + 1))
          refine cW.callV (st := []) [.int (d 1000 (i + 1))] (am_at hc_L_law 206 rfl) g_A_welfare (Or.inl (tw 239 rfl rfl)) (tw 240 rfl rfl) (tw 241 rfl rfl) 0 k_r0 rfl (by decide) rfl rfl rfl rfl (Nat.le_of_ble_eq_true rfl) hzA ?_
          rintro _ d1 ⟨rfl, h1000, hzM⟩
          show cW _ _ (e + 42) _ m_L_law 351 [some (.ref 1000), some (.ref 0), some (.ref 40), some (.int (nI i))] [.int z] _ _
          refine am_go cd_L_law hc_L_law 207 5 (pc' := 356) (L' := [some (.ref 1000), some (.ref 0), some (.ref 40), some (.int (nI i))]) (st' := [.int (nI i + 1), .ref 1000, .ref 40, .int z]) rfl ?_
          rw [show nI i + 1 = nI (i + 1) from (nI_add i 1)]
          refine am_iaload (i + 1) (am_at hc_L_law 212 rfl) rfl (Or.inr (by decide)) rfl (by show i + 1 < L; omega) (by show L < 2147483648; omega) ?_
          rw [show d1 1000 (i + 1) = d 1000 (i + 1) from congrFun h1000 _]
          refine cW.callV (st := [.int z]) [.int (d 1000 (i + 1))] (am_at hc_L_law 213 rfl) g_M_welfare (Or.inl (tw 441 rfl rfl)) (tw 442 rfl rfl) (tw 443 rfl rfl) 3 k_r3 rfl (by decide) rfl rfl rfl rfl (Nat.le_of_ble_eq_true rfl) hzM ?_
          rintro _ d2 ⟨rfl, hI2⟩
          show cW _ _ (e + 42) _ m_L_law 360 [some (.ref 1000), some (.ref 0), some (.ref 40), some (.int (nI i))] [.int z, .int z] _ _
          refine am_icmp_eq 509 (am_at hc_L_law 214 rfl) (by decide) (fun qe => ?_) (fun qe => absurd rfl qe)
          exact next d2 hI2
        · refine am_tableIn 365 (am_at hc_L_law 21 rfl) (by rw [eo2]; decide) (by rw [eo2]; decide) (off := 333) (by rw [eo2]; rfl) (by decide) ?_
          refine am_go cd_L_law hc_L_law 217 1 (pc' := 366) (L' := [some (.ref 1000), some (.ref 0), some (.ref 40), some (.int (nI i))]) (st' := [.ref 0]) rfl ?_
          obtain ⟨z, hzA⟩ := both_close (l := l) (x := x) (e := e) (L := L) hI
          refine cW.callV (st := []) [] (am_at hc_L_law 218 rfl) g_A_close (Or.inl (tw 256 rfl rfl)) (tw 257 rfl rfl) (tw 258 rfl rfl) 0 k_r0 rfl (by decide) rfl rfl rfl rfl (Nat.le_of_ble_eq_true rfl) hzA ?_
          rintro _ d1 ⟨rfl, h1000, hzM⟩
          show cW _ _ (e + 42) _ m_L_law 369 [some (.ref 1000), some (.ref 0), some (.ref 40), some (.int (nI i))] [.int z] _ _
          refine am_go cd_L_law hc_L_law 219 1 (pc' := 370) (L' := [some (.ref 1000), some (.ref 0), some (.ref 40), some (.int (nI i))]) (st' := [.ref 40, .int z]) rfl ?_
          refine cW.callV (st := [.int z]) [] (am_at hc_L_law 220 rfl) g_M_close (Or.inl (tw 454 rfl rfl)) (tw 455 rfl rfl) (tw 456 rfl rfl) 3 k_r3 rfl (by decide) rfl rfl rfl rfl (Nat.le_of_ble_eq_true rfl) hzM ?_
          rintro _ d2 ⟨rfl, hI2⟩
          show cW _ _ (e + 42) _ m_L_law 373 [some (.ref 1000), some (.ref 0), some (.ref 40), some (.int (nI i))] [.int z, .int z] _ _
          refine am_icmp_eq 509 (am_at hc_L_law 221 rfl) (by decide) (fun qe => ?_) (fun qe => absurd rfl qe)
          exact next d2 hI2
        · refine am_tableIn 378 (am_at hc_L_law 21 rfl) (by rw [eo2]; decide) (by rw [eo2]; decide) (off := 346) (by rw [eo2]; rfl) (by decide) ?_
          refine am_go cd_L_law hc_L_law 224 1 (pc' := 379) (L' := [some (.ref 1000), some (.ref 0), some (.ref 40), some (.int (nI i))]) (st' := [.ref 0]) rfl ?_
          obtain ⟨z, hzA⟩ := both_reopen (l := l) (x := x) (e := e) (L := L) hI
          refine cW.callV (st := []) [] (am_at hc_L_law 225 rfl) g_A_reopen (Or.inl (tw 272 rfl rfl)) (tw 273 rfl rfl) (tw 274 rfl rfl) 0 k_r0 rfl (by decide) rfl rfl rfl rfl (Nat.le_of_ble_eq_true rfl) hzA ?_
          rintro _ d1 ⟨rfl, h1000, hzM⟩
          show cW _ _ (e + 42) _ m_L_law 382 [some (.ref 1000), some (.ref 0), some (.ref 40), some (.int (nI i))] [.int z] _ _
          refine am_go cd_L_law hc_L_law 226 1 (pc' := 383) (L' := [some (.ref 1000), some (.ref 0), some (.ref 40), some (.int (nI i))]) (st' := [.ref 40, .int z]) rfl ?_
          refine cW.callV (st := [.int z]) [] (am_at hc_L_law 227 rfl) g_M_reopen (Or.inl (tw 459 rfl rfl)) (tw 460 rfl rfl) (tw 461 rfl rfl) 3 k_r3 rfl (by decide) rfl rfl rfl rfl (Nat.le_of_ble_eq_true rfl) hzM ?_
          rintro _ d2 ⟨rfl, hI2⟩
          show cW _ _ (e + 42) _ m_L_law 386 [some (.ref 1000), some (.ref 0), some (.ref 40), some (.int (nI i))] [.int z, .int z] _ _
          refine am_icmp_eq 509 (am_at hc_L_law 228 rfl) (by decide) (fun qe => ?_) (fun qe => absurd rfl qe)
          exact next d2 hI2
        · refine am_tableIn 391 (am_at hc_L_law 21 rfl) (by rw [eo2]; decide) (by rw [eo2]; decide) (off := 359) (by rw [eo2]; rfl) (by decide) ?_
          refine am_go cd_L_law hc_L_law 231 5 (pc' := 396) (L' := [some (.ref 1000), some (.ref 0), some (.ref 40), some (.int (nI i))]) (st' := [.int (nI i + 1), .ref 1000, .ref 0]) rfl ?_
          rw [show nI i + 1 = nI (i + 1) from (nI_add i 1)]
          refine am_iaload (i + 1) (am_at hc_L_law 236 rfl) rfl (Or.inr (by decide)) rfl (by show i + 1 < L; omega) (by show L < 2147483648; omega) ?_
          skip
          obtain ⟨z, hzA⟩ := both_owner (l := l) (x := x) (e := e) (L := L) hI (d 1000 (i + 1))
          refine cW.callV (st := []) [.int (d 1000 (i + 1))] (am_at hc_L_law 237 rfl) g_A_owner (Or.inl (tw 276 rfl rfl)) (tw 277 rfl rfl) (tw 278 rfl rfl) 0 k_r0 rfl (by decide) rfl rfl rfl rfl (Nat.le_of_ble_eq_true rfl) hzA ?_
          rintro _ d1 ⟨rfl, h1000, hzM⟩
          show cW _ _ (e + 42) _ m_L_law 400 [some (.ref 1000), some (.ref 0), some (.ref 40), some (.int (nI i))] [.int z] _ _
          refine am_go cd_L_law hc_L_law 238 5 (pc' := 405) (L' := [some (.ref 1000), some (.ref 0), some (.ref 40), some (.int (nI i))]) (st' := [.int (nI i + 1), .ref 1000, .ref 40, .int z]) rfl ?_
          rw [show nI i + 1 = nI (i + 1) from (nI_add i 1)]
          refine am_iaload (i + 1) (am_at hc_L_law 243 rfl) rfl (Or.inr (by decide)) rfl (by show i + 1 < L; omega) (by show L < 2147483648; omega) ?_
          rw [show d1 1000 (i + 1) = d 1000 (i + 1) from congrFun h1000 _]
          refine cW.callV (st := [.int z]) [.int (d 1000 (i + 1))] (am_at hc_L_law 244 rfl) g_M_owner (Or.inl (tw 463 rfl rfl)) (tw 464 rfl rfl) (tw 465 rfl rfl) 3 k_r3 rfl (by decide) rfl rfl rfl rfl (Nat.le_of_ble_eq_true rfl) hzM ?_
          rintro _ d2 ⟨rfl, hI2⟩
          show cW _ _ (e + 42) _ m_L_law 409 [some (.ref 1000), some (.ref 0), some (.ref 40), some (.int (nI i))] [.int z, .int z] _ _
          refine am_icmp_eq 509 (am_at hc_L_law 245 rfl) (by decide) (fun qe => ?_) (fun qe => absurd rfl qe)
          exact next d2 hI2
        · refine am_tableIn 414 (am_at hc_L_law 21 rfl) (by rw [eo2]; decide) (by rw [eo2]; decide) (off := 382) (by rw [eo2]; rfl) (by decide) ?_
          refine am_go cd_L_law hc_L_law 248 5 (pc' := 419) (L' := [some (.ref 1000), some (.ref 0), some (.ref 40), some (.int (nI i))]) (st' := [.int (nI i + 1), .ref 1000, .ref 0]) rfl ?_
          rw [show nI i + 1 = nI (i + 1) from (nI_add i 1)]
          refine am_iaload (i + 1) (am_at hc_L_law 253 rfl) rfl (Or.inr (by decide)) rfl (by show i + 1 < L; omega) (by show L < 2147483648; omega) ?_
          skip
          obtain ⟨z, hzA⟩ := both_paid (l := l) (x := x) (e := e) (L := L) hI (d 1000 (i + 1))
          refine cW.callV (st := []) [.int (d 1000 (i + 1))] (am_at hc_L_law 254 rfl) g_A_paid (Or.inl (tw 280 rfl rfl)) (tw 281 rfl rfl) (tw 282 rfl rfl) 0 k_r0 rfl (by decide) rfl rfl rfl rfl (Nat.le_of_ble_eq_true rfl) hzA ?_
          rintro _ d1 ⟨rfl, h1000, hzM⟩
          show cW _ _ (e + 42) _ m_L_law 423 [some (.ref 1000), some (.ref 0), some (.ref 40), some (.int (nI i))] [.int z] _ _
          refine am_go cd_L_law hc_L_law 255 5 (pc' := 428) (L' := [some (.ref 1000), some (.ref 0), some (.ref 40), some (.int (nI i))]) (st' := [.int (nI i + 1), .ref 1000, .ref 40, .int z]) rfl ?_
          rw [show nI i + 1 = nI (i + 1) from (nI_add i 1)]
          refine am_iaload (i + 1) (am_at hc_L_law 260 rfl) rfl (Or.inr (by decide)) rfl (by show i + 1 < L; omega) (by show L < 2147483648; omega) ?_
          rw [show d1 1000 (i + 1) = d 1000 (i + 1) from congrFun h1000 _]
          refine cW.callV (st := [.int z]) [.int (d 1000 (i + 1))] (am_at hc_L_law 261 rfl) g_M_paid (Or.inl (tw 467 rfl rfl)) (tw 468 rfl rfl) (tw 469 rfl rfl) 3 k_r3 rfl (by decide) rfl rfl rfl rfl (Nat.le_of_ble_eq_true rfl) hzM ?_
          rintro _ d2 ⟨rfl, hI2⟩
          show cW _ _ (e + 42) _ m_L_law 432 [some (.ref 1000), some (.ref 0), some (.ref 40), some (.int (nI i))] [.int z, .int z] _ _
          refine am_icmp_eq 509 (am_at hc_L_law 262 rfl) (by decide) (fun qe => ?_) (fun qe => absurd rfl qe)
          exact next d2 hI2
        · refine am_tableIn 437 (am_at hc_L_law 21 rfl) (by rw [eo2]; decide) (by rw [eo2]; decide) (off := 405) (by rw [eo2]; rfl) (by decide) ?_
          refine am_go cd_L_law hc_L_law 265 5 (pc' := 442) (L' := [some (.ref 1000), some (.ref 0), some (.ref 40), some (.int (nI i))]) (st' := [.int (nI i + 1), .ref 1000, .ref 0]) rfl ?_
          rw [show nI i + 1 = nI (i + 1) from (nI_add i 1)]
          refine am_iaload (i + 1) (am_at hc_L_law 270 rfl) rfl (Or.inr (by decide)) rfl (by show i + 1 < L; omega) (by show L < 2147483648; omega) ?_
          skip
          obtain ⟨z, hzA⟩ := both_cash (l := l) (x := x) (e := e) (L := L) hI (d 1000 (i + 1))
          refine cW.callV (st := []) [.int (d 1000 (i + 1))] (am_at hc_L_law 271 rfl) g_A_cash (Or.inl (tw 284 rfl rfl)) (tw 285 rfl rfl) (tw 286 rfl rfl) 0 k_r0 rfl (by decide) rfl rfl rfl rfl (Nat.le_of_ble_eq_true rfl) hzA ?_
          rintro _ d1 ⟨rfl, h1000, hzM⟩
          show cW _ _ (e + 42) _ m_L_law 446 [some (.ref 1000), some (.ref 0), some (.ref 40), some (.int (nI i))] [.int z] _ _
          refine am_go cd_L_law hc_L_law 272 5 (pc' := 451) (L' := [some (.ref 1000), some (.ref 0), some (.ref 40), some (.int (nI i))]) (st' := [.int (nI i + 1), .ref 1000, .ref 40, .int z]) rfl ?_
          rw [show nI i + 1 = nI (i + 1) from (nI_add i 1)]
          refine am_iaload (i + 1) (am_at hc_L_law 277 rfl) rfl (Or.inr (by decide)) rfl (by show i + 1 < L; omega) (by show L < 2147483648; omega) ?_
          rw [show d1 1000 (i + 1) = d 1000 (i + 1) from congrFun h1000 _]
          refine cW.callV (st := [.int z]) [.int (d 1000 (i + 1))] (am_at hc_L_law 278 rfl) g_M_cash (Or.inl (tw 471 rfl rfl)) (tw 472 rfl rfl) (tw 473 rfl rfl) 3 k_r3 rfl (by decide) rfl rfl rfl rfl (Nat.le_of_ble_eq_true rfl) hzM ?_
          rintro _ d2 ⟨rfl, hI2⟩
          show cW _ _ (e + 42) _ m_L_law 455 [some (.ref 1000), some (.ref 0), some (.ref 40), some (.int (nI i))] [.int z, .int z] _ _
          refine am_icmp_eq 509 (am_at hc_L_law 279 rfl) (by decide) (fun qe => ?_) (fun qe => absurd rfl qe)
          exact next d2 hI2
        · refine am_tableIn 460 (am_at hc_L_law 21 rfl) (by rw [eo2]; decide) (by rw [eo2]; decide) (off := 428) (by rw [eo2]; rfl) (by decide) ?_
          refine am_go cd_L_law hc_L_law 282 5 (pc' := 465) (L' := [some (.ref 1000), some (.ref 0), some (.ref 40), some (.int (nI i))]) (st' := [.int (nI i + 1), .ref 1000, .ref 0]) rfl ?_
          rw [show nI i + 1 = nI (i + 1) from (nI_add i 1)]
          refine am_iaload (i + 1) (am_at hc_L_law 287 rfl) rfl (Or.inr (by decide)) rfl (by show i + 1 < L; omega) (by show L < 2147483648; omega) ?_
          skip
          obtain ⟨z, hzA⟩ := both_escrow (l := l) (x := x) (e := e) (L := L) hI (d 1000 (i + 1))
          refine cW.callV (st := []) [.int (d 1000 (i + 1))] (am_at hc_L_law 288 rfl) g_A_escrow (Or.inl (tw 288 rfl rfl)) (tw 289 rfl rfl) (tw 290 rfl rfl) 0 k_r0 rfl (by decide) rfl rfl rfl rfl (Nat.le_of_ble_eq_true rfl) hzA ?_
          rintro _ d1 ⟨rfl, h1000, hzM⟩
          show cW _ _ (e + 42) _ m_L_law 469 [some (.ref 1000), some (.ref 0), some (.ref 40), some (.int (nI i))] [.int z] _ _
          refine am_go cd_L_law hc_L_law 289 5 (pc' := 474) (L' := [some (.ref 1000), some (.ref 0), some (.ref 40), some (.int (nI i))]) (st' := [.int (nI i + 1), .ref 1000, .ref 40, .int z]) rfl ?_
          rw [show nI i + 1 = nI (i + 1) from (nI_add i 1)]
          refine am_iaload (i + 1) (am_at hc_L_law 294 rfl) rfl (Or.inr (by decide)) rfl (by show i + 1 < L; omega) (by show L < 2147483648; omega) ?_
          rw [show d1 1000 (i + 1) = d 1000 (i + 1) from congrFun h1000 _]
          refine cW.callV (st := [.int z]) [.int (d 1000 (i + 1))] (am_at hc_L_law 295 rfl) g_M_escrow (Or.inl (tw 475 rfl rfl)) (tw 476 rfl rfl) (tw 477 rfl rfl) 3 k_r3 rfl (by decide) rfl rfl rfl rfl (Nat.le_of_ble_eq_true rfl) hzM ?_
          rintro _ d2 ⟨rfl, hI2⟩
          show cW _ _ (e + 42) _ m_L_law 478 [some (.ref 1000), some (.ref 0), some (.ref 40), some (.int (nI i))] [.int z, .int z] _ _
          refine am_icmp_eq 509 (am_at hc_L_law 296 rfl) (by decide) (fun qe => ?_) (fun qe => absurd rfl qe)
          exact next d2 hI2
        · refine am_tableIn 483 (am_at hc_L_law 21 rfl) (by rw [eo2]; decide) (by rw [eo2]; decide) (off := 451) (by rw [eo2]; rfl) (by decide) ?_
          refine am_go cd_L_law hc_L_law 299 1 (pc' := 484) (L' := [some (.ref 1000), some (.ref 0), some (.ref 40), some (.int (nI i))]) (st' := [.ref 0]) rfl ?_
          obtain ⟨z, hzA⟩ := both_seller (l := l) (x := x) (e := e) (L := L) hI
          refine cW.callV (st := []) [] (am_at hc_L_law 300 rfl) g_A_seller (Or.inl (tw 292 rfl rfl)) (tw 293 rfl rfl) (tw 294 rfl rfl) 0 k_r0 rfl (by decide) rfl rfl rfl rfl (Nat.le_of_ble_eq_true rfl) hzA ?_
          rintro _ d1 ⟨rfl, h1000, hzM⟩
          show cW _ _ (e + 42) _ m_L_law 487 [some (.ref 1000), some (.ref 0), some (.ref 40), some (.int (nI i))] [.int z] _ _
          refine am_go cd_L_law hc_L_law 301 1 (pc' := 488) (L' := [some (.ref 1000), some (.ref 0), some (.ref 40), some (.int (nI i))]) (st' := [.ref 40, .int z]) rfl ?_
          refine cW.callV (st := [.int z]) [] (am_at hc_L_law 302 rfl) g_M_seller (Or.inl (tw 479 rfl rfl)) (tw 480 rfl rfl) (tw 481 rfl rfl) 3 k_r3 rfl (by decide) rfl rfl rfl rfl (Nat.le_of_ble_eq_true rfl) hzM ?_
          rintro _ d2 ⟨rfl, hI2⟩
          show cW _ _ (e + 42) _ m_L_law 491 [some (.ref 1000), some (.ref 0), some (.ref 40), some (.int (nI i))] [.int z, .int z] _ _
          refine am_icmp_eq 509 (am_at hc_L_law 303 rfl) (by decide) (fun qe => ?_) (fun qe => absurd rfl qe)
          exact next d2 hI2
        · refine am_tableIn 496 (am_at hc_L_law 21 rfl) (by rw [eo2]; decide) (by rw [eo2]; decide) (off := 464) (by rw [eo2]; rfl) (by decide) ?_
          refine am_go cd_L_law hc_L_law 306 1 (pc' := 497) (L' := [some (.ref 1000), some (.ref 0), some (.ref 40), some (.int (nI i))]) (st' := [.ref 0]) rfl ?_
          obtain ⟨z, hzA⟩ := both_state (l := l) (x := x) (e := e) (L := L) hI
          refine cW.callV (st := []) [] (am_at hc_L_law 307 rfl) g_A_state (Or.inl (tw 296 rfl rfl)) (tw 297 rfl rfl) (tw 298 rfl rfl) 0 k_r0 rfl (by decide) rfl rfl rfl rfl (Nat.le_of_ble_eq_true rfl) hzA ?_
          rintro _ d1 ⟨rfl, h1000, hzM⟩
          show cW _ _ (e + 42) _ m_L_law 500 [some (.ref 1000), some (.ref 0), some (.ref 40), some (.int (nI i))] [.int z] _ _
          refine am_go cd_L_law hc_L_law 308 1 (pc' := 501) (L' := [some (.ref 1000), some (.ref 0), some (.ref 40), some (.int (nI i))]) (st' := [.ref 40, .int z]) rfl ?_
          refine cW.callV (st := [.int z]) [] (am_at hc_L_law 309 rfl) g_M_state (Or.inl (tw 483 rfl rfl)) (tw 484 rfl rfl) (tw 485 rfl rfl) 3 k_r3 rfl (by decide) rfl rfl rfl rfl (Nat.le_of_ble_eq_true rfl) hzM ?_
          rintro _ d2 ⟨rfl, hI2⟩
          show cW _ _ (e + 42) _ m_L_law 504 [some (.ref 1000), some (.ref 0), some (.ref 40), some (.int (nI i))] [.int z, .int z] _ _
          refine am_icmp_eq 509 (am_at hc_L_law 310 rfl) (by decide) (fun qe => ?_) (fun qe => absurd rfl qe)
          exact next d2 hI2
set_option maxRecDepth 100000 in
set_option maxHeartbeats 8000000 in
theorem law_all {l : Launch} {x : am_X} {e L : Nat} {d : am_D} (hL : L ≤ 1536) (hrk : ∀ j, j < 6 → d 1001 j = zI (rks j)) : am_W l K0 x (e + 42) 53 3197 m_L_law 0 [some (.ref 1000), none, none, none] [] (SHn L un un un un) 0 d (cQ L (fun r d' => r = some (.int 1))) := by
  have hz : Zd 0 d d := ⟨fun _ _ => rfl, fun a ha => by omega⟩
  refine sn_new (bc := 52) (bs := 3186) 0 k_r0 (am_at hc_L_law 0 rfl) rfl k_ok0 (tw 8 rfl rfl) (tw 9 rfl rfl) (tw 1 rfl rfl) (by decide +kernel) (Nat.le_of_ble_eq_true rfl) rfl ?_
  have hz1 := hz.nd (Nat.le_of_ble_eq_true rfl)
  generalize am_nd d 0 (fun _ => 0) = d1 at hz1 ⊢
  show am_W _ K0 _ (e + 42) 52 3186 m_L_law 3 [some (.ref 1000), none, none, none] [.ref 0] (SHn L un un un un) 1 d1 _
  refine am_go cd_L_law hc_L_law 1 1 (pc' := 4) (L' := [some (.ref 1000), none, none, none]) (st' := [.ref 0, .ref 0]) rfl ?_
  refine am_callI (st := [.ref 0]) k_ok [] (am_at hc_L_law 2 rfl) g_A_init (Or.inl (tw 10 rfl rfl)) (tw 11 rfl rfl) rfl rfl rfl rfl (Nat.le_of_ble_eq_true rfl) (c_A_init (e := e + 39) hz1 hrk) (Nat.le_of_ble_eq_true rfl) (Nat.le_of_ble_eq_true rfl) ?_
  rintro _ _ _ da ⟨rfl, rfl, rfl, hza, h37⟩
  show am_W _ K0 _ (e + 42) 13 1352 m_L_law 7 [some (.ref 1000), none, none, none] [.ref 0] (SHn L (us (us (us (us (us (us (us (us (us un 0 1) 1 2) 2 3) 3 4) 4 5) 5 6) 6 7) 7 13) 8 36) (us (us (us (us un 0 14) 5 15) 6 16) 7 26) (us (us (us un 0 37) 1 38) 2 39) un) 40 da _
  refine am_go cd_L_law hc_L_law 3 1 (pc' := 8) (L' := [some (.ref 1000), some (.ref 0), none, none]) (st' := []) rfl ?_
  skip
  refine sn_new (bc := 12) (bs := 1333) 3 k_r3 (am_at hc_L_law 4 rfl) rfl k_ok3 (tw 300 rfl rfl) (tw 301 rfl rfl) (tw 4 rfl rfl) (by decide +kernel) (Nat.le_of_ble_eq_true rfl) rfl ?_
  have hz101 := hza.nd (Nat.le_of_ble_eq_true rfl)
  have hk101 : (am_nd da 40 (fun _ => 0)) 37 = da 37 := am_nd_ne (by decide)
  generalize am_nd da 40 (fun _ => 0) = d101 at hz101 hk101 ⊢
  show am_W _ K0 _ (e + 42) 12 1333 m_L_law 11 [some (.ref 1000), some (.ref 0), none, none] [.ref 40] (SHn L (us (us (us (us (us (us (us (us (us un 0 1) 1 2) 2 3) 3 4) 4 5) 5 6) 6 7) 7 13) 8 36) (us (us (us (us un 0 14) 5 15) 6 16) 7 26) (us (us (us un 0 37) 1 38) 2 39) un) 41 d101 _
  refine am_go cd_L_law hc_L_law 5 1 (pc' := 12) (L' := [some (.ref 1000), some (.ref 0), none, none]) (st' := [.ref 40, .ref 40]) rfl ?_
  refine am_callI (st := [.ref 40]) k_ok [] (am_at hc_L_law 6 rfl) g_M_init (Or.inl (tw 302 rfl rfl)) (tw 303 rfl rfl) rfl rfl rfl rfl (Nat.le_of_ble_eq_true rfl) (c_M_init (e := e + 40) hz101) (Nat.le_of_ble_eq_true rfl) (Nat.le_of_ble_eq_true rfl) ?_
  rintro _ _ _ db ⟨rfl, rfl, rfl, hzb, hkb⟩
  show am_W _ K0 _ (e + 42) 0 0 m_L_law 15 [some (.ref 1000), some (.ref 0), none, none] [.ref 40] (SHn L (us (us (us (us (us (us (us (us (us un 0 1) 1 2) 2 3) 3 4) 4 5) 5 6) 6 7) 7 13) 8 36) (us (us (us (us un 0 14) 5 15) 6 16) 7 26) (us (us (us un 0 37) 1 38) 2 39) (us (us (us (us (us (us (us (us (us (us (us (us un 1 41) 2 42) 4 43) 6 44) 7 45) 8 46) 9 47) 11 48) 12 49) 16 50) 17 51) 18 52)) 53 db _
  rw [SHn_full]
  refine am_go cd_L_law hc_L_law 7 3 (pc' := 18) (L' := [some (.ref 1000), some (.ref 0), some (.ref 40), some (.int 0)]) (st' := []) rfl ?_
  exact law_loop hL (L + 1) 0 db (by omega) (Nat.zero_le _) (IV_0 hzb (fun s hs => by rw [hkb, hk101]; exact h37 s hs))
