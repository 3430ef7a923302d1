/-! runs of the small machine over a program: code by method, places of locals by method -/
/-- code, places of locals, and what kind of object a method is called on (0: none) -/
abbrev zP : Type := (Nat → List (List Instr)) × (Nat → Nat) × (Nat → Nat)
def zini (P : zP) (j : Nat) (args : List zV) : List zV := zpad (zexp args) (P.2.1 j)
def zrcB (k : Nat) (args : List zV) (σ : zS) : Bool := match k, args with
  | 0, _ => true
  | k + 1, .inr (.inr (.inl a)) :: _ => decide ((σ.2.2.1 a).1 = k + 1)
  | _, _ => false
def zfits (P : zP) (j : Nat) (args : List zV) (σ : zS) : Bool := (zexp args).length.ble (P.2.1 j) && zrcB (P.2.2 j) args σ

def zrun (P : zP) : Nat → Nat → Nat → Nat → List zV → List zV → zS → zO
  | 0, _, _, _, _, _, _ => none
  | n + 1, d, j, pc, ls, st, σ => zstp (fun j' args σ' => match d with
      | 0 => none
      | d' + 1 => if zfits P j' args σ' = true then zrun P n d' j' 0 (zini P j' args) [] σ' else none) (zrun P n d j) (znth2 .nop (P.1 j) pc) pc ls st σ
/-- the caller's view of runs of n steps at most -/
def zcaln (P : zP) (n d : Nat) (j : Nat) (args : List zV) (σ : zS) : zO := match d with
  | 0 => none
  | d' + 1 => if zfits P j args σ = true then zrun P n d' j 0 (zini P j args) [] σ else none
theorem zrun_succ (P : zP) (n d j pc : Nat) (ls st : List zV) (σ : zS) : zrun P (n + 1) d j pc ls st σ = zstp (zcaln P n d) (zrun P n d j) (znth2 .nop (P.1 j) pc) pc ls st σ := rfl
theorem zsw_ev {x : Int} {d : Nat} {k : Nat → zO} {kn : Nat → Nat → zO} {r : zV × zS} (hk : ∀ t, k t = some r → ∃ n, ∀ m, n ≤ m → kn m t = some r) : ∀ (ts : List Int) (lo : Int), zsw x d k lo ts = some r → ∃ n, ∀ m, n ≤ m → zsw x d (kn m) lo ts = some r
  | [], _, h => hk _ h
  | t :: ts, lo, h => by
    unfold zsw at h ⊢
    by_cases c : x = lo
    · rw [if_pos c] at h; simp only [if_pos c]; exact hk _ h
    · rw [if_neg c] at h; simp only [if_neg c]; exact zsw_ev hk ts _ h
theorem zlk_ev {x : Int} {d : Nat} {k : Nat → zO} {kn : Nat → Nat → zO} {r : zV × zS} (hk : ∀ t, k t = some r → ∃ n, ∀ m, n ≤ m → kn m t = some r) : ∀ (ts : List (Int × Int)), zlk x d k ts = some r → ∃ n, ∀ m, n ≤ m → zlk x d (kn m) ts = some r
  | [], h => hk _ h
  | t :: ts, h => by
    unfold zlk at h ⊢
    by_cases c : x = t.1
    · rw [if_pos c] at h; simp only [if_pos c]; exact hk _ h
    · rw [if_neg c] at h; simp only [if_neg c]; exact zlk_ev hk ts h
/-- what one step needs of what it calls: one call's answer and one way on -/
theorem zstp_ev {cal : Nat → List zV → zS → zO} {k : Nat → List zV → List zV → zS → zO} {caln : Nat → Nat → List zV → zS → zO} {kn : Nat → Nat → List zV → List zV → zS → zO}
    (hc : ∀ j a σ r, cal j a σ = some r → ∃ n, ∀ m, n ≤ m → caln m j a σ = some r) (hk : ∀ pc ls st σ r, k pc ls st σ = some r → ∃ n, ∀ m, n ≤ m → kn m pc ls st σ = some r)
    (ins : Instr) (pc : Nat) (ls st : List zV) (σ : zS) (r : zV × zS) (h : zstp cal k ins pc ls st σ = some r) : ∃ n, ∀ m, n ≤ m → zstp (caln m) (kn m) ins pc ls st σ = some r := by
  have hbI : ∀ j a σ0 (f : Int → zS → zO) (fn : Nat → Int → zS → zO), (∀ x σ' r, f x σ' = some r → ∃ n, ∀ m, n ≤ m → fn m x σ' = some r) → ∀ r, zbI (cal j a σ0) f = some r → ∃ n, ∀ m, n ≤ m → zbI (caln m j a σ0) (fn m) = some r := by
    intro j a σ0 f fn hf r h
    unfold zbI at h
    split at h
    · next x σ' e =>
      obtain ⟨n1, h1⟩ := hc _ _ _ _ e
      obtain ⟨n2, h2⟩ := hf _ _ _ h
      exact ⟨n1 + n2, fun m hm => by rw [h1 m (by omega)]; exact h2 m (by omega)⟩
    · cases h
  have hbL : ∀ j a σ0 (f : Int → zS → zO) (fn : Nat → Int → zS → zO), (∀ x σ' r, f x σ' = some r → ∃ n, ∀ m, n ≤ m → fn m x σ' = some r) → ∀ r, zbL (cal j a σ0) f = some r → ∃ n, ∀ m, n ≤ m → zbL (caln m j a σ0) (fn m) = some r := by
    intro j a σ0 f fn hf r h
    unfold zbL at h
    split at h
    · next x σ' e =>
      obtain ⟨n1, h1⟩ := hc _ _ _ _ e
      obtain ⟨n2, h2⟩ := hf _ _ _ h
      exact ⟨n1 + n2, fun m hm => by rw [h1 m (by omega)]; exact h2 m (by omega)⟩
    · cases h
  have hbA : ∀ j a σ0 (f : Nat → zS → zO) (fn : Nat → Nat → zS → zO), (∀ x σ' r, f x σ' = some r → ∃ n, ∀ m, n ≤ m → fn m x σ' = some r) → ∀ r, zbA (cal j a σ0) f = some r → ∃ n, ∀ m, n ≤ m → zbA (caln m j a σ0) (fn m) = some r := by
    intro j a σ0 f fn hf r h
    unfold zbA at h
    split at h
    · next x σ' e =>
      obtain ⟨n1, h1⟩ := hc _ _ _ _ e
      obtain ⟨n2, h2⟩ := hf _ _ _ h
      exact ⟨n1 + n2, fun m hm => by rw [h1 m (by omega)]; exact h2 m (by omega)⟩
    · cases h
  have hbV : ∀ j a σ0 (f : zS → zO) (fn : Nat → zS → zO), (∀ σ' r, f σ' = some r → ∃ n, ∀ m, n ≤ m → fn m σ' = some r) → ∀ r, zbV (cal j a σ0) f = some r → ∃ n, ∀ m, n ≤ m → zbV (caln m j a σ0) (fn m) = some r := by
    intro j a σ0 f fn hf r h
    unfold zbV at h
    split at h
    · next u σ' e =>
      obtain ⟨n1, h1⟩ := hc _ _ _ _ e
      obtain ⟨n2, h2⟩ := hf _ _ h
      exact ⟨n1 + n2, fun m hm => by rw [h1 m (by omega)]; exact h2 m (by omega)⟩
    · cases h
  have hkn : ∀ pc ls st σ, k pc ls st σ = some r → ∃ n, ∀ m, n ≤ m → kn m pc ls st σ = some r := fun pc ls st σ h => hk pc ls st σ r h
  have hkx : ∀ (G : Nat → Prop) pc ls st σ, k pc ls st σ = some r → (∀ m, kn m pc ls st σ = some r → G m) → ∃ n, ∀ m, n ≤ m → G m := fun G pc ls st σ h hg => by
    obtain ⟨n, hn⟩ := hk pc ls st σ r h
    exact ⟨n, fun m hm => hg m (hn m hm)⟩
  cases ins
  case tableswitch d lo hi offs =>
    simp only [zstp] at h ⊢
    split at h
    · exact zsw_ev (kn := fun m t => kn m t ls _ σ) (fun t h => hk _ _ _ _ _ h) _ _ h
    · cases h
  case lookupswitch d ps =>
    simp only [zstp] at h ⊢
    split at h
    · exact zlk_ev (kn := fun m t => kn m t ls _ σ) (fun t h => hk _ _ _ _ _ h) _ h
    · cases h
  case invokeinterface j nt =>
    simp only [zstp] at h ⊢
    split at h
    · exact hbI _ _ _ _ (fun m x σ' => kn m (pc + 1) ls (zI x :: st.drop (nt / 4)) σ') (fun x σ' r h => hk _ _ _ _ _ h) _ h
    · exact hbL _ _ _ _ (fun m x σ' => kn m (pc + 1) ls (zL x :: st.drop (nt / 4)) σ') (fun x σ' r h => hk _ _ _ _ _ h) _ h
    · exact hbA _ _ _ _ (fun m x σ' => kn m (pc + 1) ls (zA x :: st.drop (nt / 4)) σ') (fun x σ' r h => hk _ _ _ _ _ h) _ h
    · exact hbV _ _ _ _ (fun m σ' => kn m (pc + 1) ls (st.drop (nt / 4)) σ') (fun σ' r h => hk _ _ _ _ _ h) _ h
    · cases h
  all_goals simp only [zstp] at h ⊢
  all_goals (try (cases h; done))
  all_goals (repeat' split at h)
  all_goals (try (cases h; done))
  all_goals (try (exact hk _ _ _ _ _ h))
  all_goals (try (exact ⟨0, fun m _ => h⟩))
  all_goals (try (refine hkx _ _ _ _ _ h (fun m hm => ?_); (repeat' split) <;> first | exact hm | contradiction))
  all_goals (exact ⟨0, fun m _ => by rw [if_pos (by assumption)]; exact h⟩)
/-- more steps do no harm -/
theorem zrun_mono (P : zP) : ∀ (n d j pc : Nat) (ls st : List zV) (σ : zS) (r : zV × zS), zrun P n d j pc ls st σ = some r → ∀ m, n ≤ m → zrun P m d j pc ls st σ = some r := by
  intro n
  induction n with
  | zero => intro d j pc ls st σ r h; cases h
  | succ n ih =>
    intro d j pc ls st σ r h m hm
    obtain ⟨m, rfl⟩ : ∃ m', m = m' + 1 := ⟨m - 1, by omega⟩
    rw [zrun_succ] at h ⊢
    have hcal : ∀ j a σ r, zcaln P n d j a σ = some r → ∃ n' : Nat, ∀ m', n' ≤ m' → zcaln P m d j a σ = some r := by
      intro j a σ r h
      refine ⟨0, fun m' _ => ?_⟩
      unfold zcaln at h ⊢
      cases d with
      | zero => cases h
      | succ d' =>
        simp only at h ⊢
        split at h
        · next q => rw [if_pos q]; exact ih _ _ _ _ _ _ _ h m (by omega)
        · cases h
    obtain ⟨n0, h0⟩ := zstp_ev (caln := fun _ => zcaln P m d) (kn := fun _ => zrun P m d j) hcal (fun pc ls st σ r h => ⟨0, fun _ _ => ih _ _ _ _ _ _ _ h m (by omega)⟩) _ _ _ _ _ _ h
    exact h0 n0 (Nat.le_refl _)
/-- THE MEANING: what some number of steps gives -/
noncomputable def zR (P : zP) (d j pc : Nat) (ls st : List zV) (σ : zS) : zO :=
  @dite zO (∃ n, (zrun P n d j pc ls st σ).isSome) (Classical.propDecidable _) (fun h => zrun P h.choose d j pc ls st σ) (fun _ => none)
theorem zR_iff (P : zP) (d j pc : Nat) (ls st : List zV) (σ : zS) (r : zV × zS) : zR P d j pc ls st σ = some r ↔ ∃ n, zrun P n d j pc ls st σ = some r := by
  unfold zR
  constructor
  · intro h
    split at h
    · exact ⟨_, h⟩
    · cases h
  · intro ⟨n, h⟩
    have h1 : ∃ n, (zrun P n d j pc ls st σ).isSome := ⟨n, by rw [h]; rfl⟩
    rw [dif_pos h1]
    have h2 := h1.choose_spec
    obtain ⟨r', h3⟩ := Option.isSome_iff_exists.mp h2
    have h4 := zrun_mono P _ _ _ _ _ _ _ _ h3 (h1.choose + n) (by omega)
    have h5 := zrun_mono P _ _ _ _ _ _ _ _ h (h1.choose + n) (by omega)
    rw [h3]
    exact h4.symm.trans h5
/-- a call, d deep at most -/
noncomputable def zcal (P : zP) (d : Nat) (j : Nat) (args : List zV) (σ : zS) : zO := match d with
  | 0 => none
  | d' + 1 => if zfits P j args σ = true then zR P d' j 0 (zini P j args) [] σ else none
theorem zcal_in {P : zP} {d j : Nat} {args : List zV} {σ : zS} (h : zfits P j args σ = true) : zcal P (d + 1) j args σ = zR P d j 0 (zini P j args) [] σ := if_pos h
theorem zcal_inK {P : zP} {d j a k : Nat} {args : List zV} {σ : zS} (hk : P.2.2 j = k + 1) (h : (zexp (zA a :: args)).length.ble (P.2.1 j) = true) {o : zO} (ho : zR P d j 0 (zini P j (zA a :: args)) [] σ = o) : zcal P (d + 1) j (zA a :: args) σ = if (σ.2.2.1 a).1 = k + 1 then o else none := by
  subst ho
  show (if zfits P j (zA a :: args) σ = true then _ else _) = _
  have e : zfits P j (zA a :: args) σ = decide ((σ.2.2.1 a).1 = k + 1) := by
    unfold zfits
    rw [h, hk]
    rfl
  rw [e]
  by_cases c : (σ.2.2.1 a).1 = k + 1
  · rw [if_pos c, if_pos (decide_eq_true c)]
  · rw [if_neg c, if_neg (by simpa using c)]
theorem zopt {a b : zO} (h : ∀ r, a = some r ↔ b = some r) : a = b := by
  cases a with
  | none =>
    cases b with
    | none => rfl
    | some r => exact absurd ((h r).mpr rfl) (by simp)
  | some r => exact ((h r).mp rfl).symm
theorem zcal_iff (P : zP) (d j : Nat) (args : List zV) (σ : zS) (r : zV × zS) : zcal P d j args σ = some r ↔ ∃ n, zcaln P n d j args σ = some r := by
  unfold zcal zcaln
  cases d with
  | zero => simp
  | succ d' =>
    by_cases c : zfits P j args σ = true
    · simp only [if_pos c]; exact zR_iff _ _ _ _ _ _ _ _
    · simp [if_neg c]
theorem zcaln_mono (P : zP) (n d j : Nat) (args : List zV) (σ : zS) (r : zV × zS) (h : zcaln P n d j args σ = some r) (m : Nat) (hm : n ≤ m) : zcaln P m d j args σ = some r := by
  unfold zcaln at h ⊢
  cases d with
  | zero => cases h
  | succ d' =>
    simp only at h ⊢
    split at h
    · next q => rw [if_pos q]; exact zrun_mono P _ _ _ _ _ _ _ _ h m hm
    · cases h
theorem zR_eq (P : zP) (d j pc : Nat) (ls st : List zV) (σ : zS) : zR P d j pc ls st σ = zstp (zcal P d) (zR P d j) (znth2 .nop (P.1 j) pc) pc ls st σ := by
  apply zopt
  intro r
  constructor
  · intro h
    obtain ⟨n, h⟩ := (zR_iff _ _ _ _ _ _ _ _).mp h
    cases n with
    | zero => cases h
    | succ n =>
      rw [zrun_succ] at h
      obtain ⟨n0, h0⟩ := zstp_ev (caln := fun _ => zcal P d) (kn := fun _ => zR P d j) (fun j a σ r h => ⟨0, fun _ _ => (zcal_iff _ _ _ _ _ _).mpr ⟨_, h⟩⟩) (fun pc ls st σ r h => ⟨0, fun _ _ => (zR_iff _ _ _ _ _ _ _ _).mpr ⟨_, h⟩⟩) _ _ _ _ _ _ h
      exact h0 n0 (Nat.le_refl _)
  · intro h
    obtain ⟨n0, h0⟩ := zstp_ev (caln := fun m => zcaln P m d) (kn := fun m => zrun P m d j) (fun j a σ r h => by
        obtain ⟨n, h⟩ := (zcal_iff _ _ _ _ _ _).mp h
        exact ⟨n, fun m hm => zcaln_mono _ _ _ _ _ _ _ h m hm⟩) (fun pc ls st σ r h => by
        obtain ⟨n, h⟩ := (zR_iff _ _ _ _ _ _ _ _).mp h
        exact ⟨n, fun m hm => zrun_mono _ _ _ _ _ _ _ _ _ h m hm⟩) _ _ _ _ _ _ h
    exact (zR_iff _ _ _ _ _ _ _ _).mpr ⟨n0 + 1, by rw [zrun_succ]; exact h0 n0 (Nat.le_refl _)⟩
/-- some steps at once, up to the stops -/
def zF (cal : Nat → List zV → zS → zO) (base : Nat → List zV → List zV → zS → zO) (cd : List (List Instr)) (stops : List Nat) : Nat → Nat → List zV → List zV → zS → zO
  | 0, pc, ls, st, σ => base pc ls st σ
  | n + 1, pc, ls, st, σ => zstp cal (fun pc' ls' st' σ' => match stops.elem pc' with
      | true => base pc' ls' st' σ'
      | false => zF cal base cd stops n pc' ls' st' σ') (znth2 .nop cd pc) pc ls st σ
theorem zF_eq {P : zP} {d j : Nat} {cd : List (List Instr)} (hcd : P.1 j = cd) (stops : List Nat) : ∀ (n pc : Nat) (ls st : List zV) (σ : zS), zF (zcal P d) (zR P d j) cd stops n pc ls st σ = zR P d j pc ls st σ := by
  intro n
  induction n with
  | zero => intros; rfl
  | succ n ih =>
    intro pc ls st σ
    rw [zR_eq, hcd]
    show zstp _ (fun pc' ls' st' σ' => match stops.elem pc' with
      | true => zR P d j pc' ls' st' σ'
      | false => zF (zcal P d) (zR P d j) cd stops n pc' ls' st' σ') _ _ _ _ _ = _
    congr 1
    funext pc' ls' st' σ'
    cases stops.elem pc' with
    | true => rfl
    | false => exact ih _ _ _ _
