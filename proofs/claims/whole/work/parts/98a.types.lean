/-! WHAT A CALL ANSWERS: an int or a long; what it leaves as it was -/
def zri : Instr → Bool
  | .lreturn => false
  | .areturn => false
  | .return_ => false
  | _ => true
def zrl : Instr → Bool
  | .ireturn => false
  | .ret _ => false
  | .areturn => false
  | .return_ => false
  | _ => true
def zallr (p : Instr → Bool) (l : List (List Instr)) : Bool := l.all fun r => r.all p
theorem znth_p {α : Type} {p : α → Bool} {d : α} (hd : p d = true) : ∀ (l : List α) (n : Nat), l.all p = true → p (znth d l n) = true
  | [], _, _ => hd
  | a :: l, 0, h => by
    rw [List.all_cons, Bool.and_eq_true] at h
    exact h.1
  | a :: l, n + 1, h => by
    rw [List.all_cons, Bool.and_eq_true] at h
    exact znth_p hd l n h.2
theorem zallr_at {p : Instr → Bool} {l : List (List Instr)} (hd : p .nop = true) (h : zallr p l = true) (n : Nat) : p (znth2 .nop l n) = true :=
  znth_p hd _ _ (znth_p (p := fun r : List Instr => r.all p) (d := []) rfl _ _ h)
set_option maxHeartbeats 4000000 in
theorem zstp_int {cal : Nat → List zV → zS → zO} {k : Nat → List zV → List zV → zS → zO} {ins : Instr} {pc : Nat} {ls st : List zV} {σ : zS} {r : zV × zS} (hp : zri ins = true) (hk : ∀ pc ls st σ1 r, k pc ls st σ1 = some r → ∃ x : Int, r.1 = zI x)
    (h : zstp cal k ins pc ls st σ = some r) : ∃ x : Int, r.1 = zI x := by
  cases ins
  case tableswitch a lo hi offs =>
    simp only [zstp] at h
    split at h
    · obtain ⟨t, ht⟩ := zsw_some _ _ h
      exact hk _ _ _ _ _ ht
    · cases h
  case lookupswitch a ps =>
    simp only [zstp] at h
    split at h
    · obtain ⟨t, ht⟩ := zlk_some _ h
      exact hk _ _ _ _ _ ht
    · cases h
  case invokeinterface i nt =>
    simp only [zstp] at h
    split at h
    · obtain ⟨x, σ1, e, h⟩ := zbI_some h
      exact hk _ _ _ _ _ h
    · obtain ⟨x, σ1, e, h⟩ := zbL_some h
      exact hk _ _ _ _ _ h
    · obtain ⟨x, σ1, e, h⟩ := zbA_some h
      exact hk _ _ _ _ _ h
    · obtain ⟨x, σ1, e, h⟩ := zbV_some h
      exact hk _ _ _ _ _ h
    · cases h
  all_goals simp only [zstp] at h
  all_goals (try (cases h; done))
  all_goals (try (cases hp; done))
  all_goals (repeat' split at h)
  all_goals (try (cases h; done))
  all_goals (try (exact hk _ _ _ _ _ h))
  all_goals (cases h; exact ⟨_, rfl⟩)
set_option maxHeartbeats 4000000 in
theorem zstp_long {cal : Nat → List zV → zS → zO} {k : Nat → List zV → List zV → zS → zO} {ins : Instr} {pc : Nat} {ls st : List zV} {σ : zS} {r : zV × zS} (hp : zrl ins = true) (hk : ∀ pc ls st σ1 r, k pc ls st σ1 = some r → ∃ x : Int, r.1 = zL x)
    (h : zstp cal k ins pc ls st σ = some r) : ∃ x : Int, r.1 = zL x := by
  cases ins
  case tableswitch a lo hi offs =>
    simp only [zstp] at h
    split at h
    · obtain ⟨t, ht⟩ := zsw_some _ _ h
      exact hk _ _ _ _ _ ht
    · cases h
  case lookupswitch a ps =>
    simp only [zstp] at h
    split at h
    · obtain ⟨t, ht⟩ := zlk_some _ h
      exact hk _ _ _ _ _ ht
    · cases h
  case invokeinterface i nt =>
    simp only [zstp] at h
    split at h
    · obtain ⟨x, σ1, e, h⟩ := zbI_some h
      exact hk _ _ _ _ _ h
    · obtain ⟨x, σ1, e, h⟩ := zbL_some h
      exact hk _ _ _ _ _ h
    · obtain ⟨x, σ1, e, h⟩ := zbA_some h
      exact hk _ _ _ _ _ h
    · obtain ⟨x, σ1, e, h⟩ := zbV_some h
      exact hk _ _ _ _ _ h
    · cases h
  all_goals simp only [zstp] at h
  all_goals (try (cases h; done))
  all_goals (try (cases hp; done))
  all_goals (repeat' split at h)
  all_goals (try (cases h; done))
  all_goals (try (exact hk _ _ _ _ _ h))
  all_goals (cases h; exact ⟨_, rfl⟩)
theorem zrun_int {P : zP} {j : Nat} (hp : ∀ pc, zri (znth2 .nop (P.1 j) pc) = true) : ∀ (n d pc : Nat) (ls st : List zV) (σ : zS) (r : zV × zS), zrun P n d j pc ls st σ = some r → ∃ x : Int, r.1 = zI x := by
  intro n
  induction n with
  | zero => intro d pc ls st σ r h; cases h
  | succ n ih =>
    intro d pc ls st σ r h
    rw [zrun_succ] at h
    exact zstp_int (hp pc) (fun pc ls st σ1 r h => ih _ _ _ _ _ _ h) h
theorem zrun_long {P : zP} {j : Nat} (hp : ∀ pc, zrl (znth2 .nop (P.1 j) pc) = true) : ∀ (n d pc : Nat) (ls st : List zV) (σ : zS) (r : zV × zS), zrun P n d j pc ls st σ = some r → ∃ x : Int, r.1 = zL x := by
  intro n
  induction n with
  | zero => intro d pc ls st σ r h; cases h
  | succ n ih =>
    intro d pc ls st σ r h
    rw [zrun_succ] at h
    exact zstp_long (hp pc) (fun pc ls st σ1 r h => ih _ _ _ _ _ _ h) h
theorem zcal_run {P : zP} {d j : Nat} {args : List zV} {σ : zS} {r : zV × zS} (h : zcal P (d + 1) j args σ = some r) : ∃ n, zrun P n d j 0 (zini P j args) [] σ = some r := by
  have h : (if zfits P j args σ = true then zR P d j 0 (zini P j args) [] σ else none) = some r := h
  split at h
  · exact (zR_iff _ _ _ _ _ _ _ _).mp h
  · cases h
theorem zcal_int {j : Nat} {args : List zV} {σ σ' : zS} {v : zV} (hp : zallr zri (zPP.1 j) = true) (h : zcal zPP 100 j args σ = some (v, σ')) : ∃ x : Int, v = zI x := by
  obtain ⟨n, hn⟩ := zcal_run (d := 99) h
  exact zrun_int (zallr_at rfl hp) _ _ _ _ _ _ _ hn
theorem zcal_long {j : Nat} {args : List zV} {σ σ' : zS} {v : zV} (hp : zallr zrl (zPP.1 j) = true) (h : zcal zPP 100 j args σ = some (v, σ')) : ∃ x : Int, v = zL x := by
  obtain ⟨n, hn⟩ := zcal_run (d := 99) h
  exact zrun_long (zallr_at rfl hp) _ _ _ _ _ _ _ hn
/-- a call leaves the script and the constants -/
theorem zcal_pres {L : Nat} {xs : Nat → Int} (hck : ∀ j, zcm j) {j : Nat} {args : List zV} {σ : zS} {r : zV × zS} (hI : zIv L xs σ) (has : zcs args) (h : zcal zPP 100 j args σ = some r) : zIv L xs r.2 := by
  obtain ⟨n, hn⟩ := zcal_run (d := 99) h
  exact (zrun_pres hck n 99 j 0 _ [] σ r hI (zpad_cs (zexp_cs has)) trivial hn).2.1
