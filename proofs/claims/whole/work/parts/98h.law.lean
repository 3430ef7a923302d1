/-! THE LAW'S RUN, out of what must hold of the code -/
theorem law_run (hck : ∀ j, zcm j) {L : Nat} {xs : Nat → Int} (hL : L ≤ 3072) (hx : ∀ k, z32 (xs k)) : ∃ (n : Nat) (σ' : zS), zrun zPP n 100 0 0 (zini zPP 0 [zA 1]) [] (zB L xs) = some (zI 1, σ') ∧ σ'.1 ≤ 600009 ∧ σ'.2.1 ≤ 7302250 := by
  have I0 : zIv L xs (zB L xs) := zIv0 hL hx
  have I1 : zIv L xs (9 + 1, 0 + 12, zupS (zB L xs).2.2.1 9 (9, 12), zrow (zB L xs).2.2.2.1 9 (fun _ => 0), zrow (zB L xs).2.2.2.2 9 (fun _ => 0)) := ⟨by show 9 ≤ 9 + 1; decide, I0.2.new (Nat.le_refl _) (Or.inl ⟨by decide, by decide⟩) (by decide) (fun j => zcn_0 _ j)⟩
  obtain ⟨s1, S1, R1, M1, e1, hs1, p1⟩ := kn_X (d := 96) 0 (zB L xs).2.2.1 (zB L xs).2.2.2.1 (zB L xs).2.2.2.2
  have e1 : zcal zPP 100 15 [zA 9] (9 + 1, 0 + 12, zupS (zB L xs).2.2.1 9 (9, 12), zrow (zB L xs).2.2.2.1 9 (fun _ => 0), zrow (zB L xs).2.2.2.2 9 (fun _ => 0)) = some (zU, (305, s1, S1, R1, M1)) := e1
  have I2 : zIv L xs (305, s1, S1, R1, M1) := zcal_pres hck I1 (args := [zA 9]) ⟨trivial, trivial⟩ e1
  have I3 : zIv L xs (305 + 1, s1 + 30, zupS S1 305 (10, 30), zrow R1 305 (fun _ => 0), zrow M1 305 (fun _ => 0)) := ⟨by show 9 ≤ 305 + 1; decide, I2.2.new (by show 9 ≤ 305; decide) (Or.inl ⟨by decide, by decide⟩) (by decide) (fun j => zcn_0 _ j)⟩
  obtain ⟨s2, S2, R2, M2, e2, hs2, p2⟩ := kn_M (d := 98) s1 S1 R1 M1
  have e2 : zcal zPP 100 177 [zA 305] (305 + 1, s1 + 30, zupS S1 305 (10, 30), zrow R1 305 (fun _ => 0), zrow M1 305 (fun _ => 0)) = some (zU, (319, s2, S2, R2, M2)) := e2
  have I4 : zIv L xs (319, s2, S2, R2, M2) := zcal_pres hck I3 (args := [zA 305]) ⟨trivial, trivial⟩ e2
  obtain ⟨σ', k1, k2, k3⟩ := kl_loop hck hL hx 512 0 319 s2 S2 R2 M2 (by decide) (by omega) ⟨I4, _, qWd_first p1 p2⟩
  have e : zcal zPP 101 0 [zA 1] (zB L xs) = some (zI 1, σ') := by
    rw [c_Law_law]
    show zbV (zcal zPP 100 15 [zA 9] (9 + 1, 0 + 12, zupS (zB L xs).2.2.1 9 (9, 12), zrow (zB L xs).2.2.2.1 9 (fun _ => 0), zrow (zB L xs).2.2.2.2 9 (fun _ => 0))) _ = _
    rw [e1]
    show zbV (zcal zPP 100 177 [zA 305] (305 + 1, s1 + 30, zupS S1 305 (10, 30), zrow R1 305 (fun _ => 0), zrow M1 305 (fun _ => 0))) _ = _
    rw [e2]
    exact k1
  obtain ⟨n, hn⟩ := zcal_run (d := 100) e
  exact ⟨n, σ', hn, by omega, by omega⟩
/-- every table of places begins with 0 -/
theorem zpc_00 : ∀ j, zpc j 0 = 0 := by
  have h : ((zpcT.all fun r => r.all fun l => decide (znth2 0 l 0 = 0)) = true) := by decide +kernel
  intro j
  have h2 := znth_p (p := fun r : List (List (List Nat)) => r.all fun l => decide (znth2 0 l 0 = 0)) (d := []) rfl _ (j / 16) h
  have h3 := znth_p (p := fun l : List (List Nat) => decide (znth2 0 l 0 = 0)) (d := []) rfl _ (j % 16) h2
  exact of_decide_eq_true h3
