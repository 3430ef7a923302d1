/-! EVERY RUN OF THE SMALL MACHINE IS A RUN OF THE MACHINE -/
theorem zMQ {l : Launch} {g : zG} {j : Nat} {v : zV} {σ' : zS} {p : Program} {e : Env} {s : State} {m : MethodId} {args : Array Value} {below : List Frame} {meth : Method} {c : Code} {R : Room} {mc ms : Nat} (hx : p.tables.exec = Jvm.exec) (hb : c.code = (zm j).2.1) (hr : meth.sig.returnType = (zm j).2.2.1) (hlk : meth.locks = false)
    {pc : Nat} {H : Heap} {locs : List Loc} {lsA : Array Slot} (hH : zHP g σ' H) (hS : va_S (zAr g) s.heap H locs) (hE : zEnd j pc v) : W p l e R s m args below meth c H locs mc ms (MQ below (zQ g v σ') args s mc ms (zAr g)) (F0 m pc lsA (zrs g v)) := by
  have post : ∀ t : State, t.heap = H → zHP g σ' t.heap ∧ va_F (zAr g) s t := fun t ht => ⟨by rw [ht]; exact hH, hS.F ht⟩
  rcases hE with ⟨x, ty, rfl, hdg, hty, hn⟩ | ⟨x, rfl, hdg, hty⟩ | ⟨a, rfl, hdg, rt, hty, hrt⟩ | ⟨rfl, hdg, hty⟩
  · exact W.zret hx hb (hr.trans hty) hn (fun t ht _ => ⟨rfl, post t ht⟩) hS.2.2 hdg hlk
  · exact W.lret hx hb (hr.trans hty) (fun t ht _ => ⟨rfl, post t ht⟩) hS.2.2 hdg hlk
  · exact W.aret hx hb (hr.trans hty) hrt (v := va_rf (zad g a)) (by cases zad g a with
      | none => exact Or.inl rfl
      | some y => exact Or.inr ⟨y, rfl⟩) (fun t ht _ => ⟨rfl, post t ht⟩) hS.2.2 hdg hlk
  · exact W.vret hx hb (hr.trans hty) (fun t ht _ => ⟨rfl, post t ht⟩) hS.2.2 hdg hlk
def zGr (σ : zS) (r : zV × zS) : Prop := σ.1 ≤ r.2.1 ∧ σ.2.1 ≤ r.2.2.1
set_option maxHeartbeats 4000000 in
theorem zstp_grow {cal : Nat → List zV → zS → zO} {k : Nat → List zV → List zV → zS → zO} (hk : ∀ pc ls st σ1 r, k pc ls st σ1 = some r → zGr σ1 r) (hc : ∀ i as σ1 r, cal i as σ1 = some r → zGr σ1 r)
    {ins : Instr} {pc : Nat} {ls st : List zV} {σ : zS} {r : zV × zS} (h : zstp cal k ins pc ls st σ = some r) : zGr σ r := by
  have tr : ∀ {σ1 : zS} {va : zV}, zGr σ (va, σ1) → zGr σ1 r → zGr σ r := fun h1 h2 => ⟨Nat.le_trans h1.1 h2.1, Nat.le_trans h1.2 h2.2⟩
  cases ins
  case tableswitch a lo hi offs =>
    simp only [zstp] at h
    split at h
    · obtain ⟨t, ht⟩ := zsw_some _ _ h
      exact hk _ _ _ _ _ ht
    · cases h
  case lookupswitch a ps =>
    simp only [zstp] at h
    split at h
    · obtain ⟨t, ht⟩ := zlk_some _ h
      exact hk _ _ _ _ _ ht
    · cases h
  case invokeinterface i nt =>
    simp only [zstp] at h
    split at h
    · obtain ⟨x, σ1, e, h⟩ := zbI_some h
      exact tr (hc _ _ _ _ e) (hk _ _ _ _ _ h)
    · obtain ⟨x, σ1, e, h⟩ := zbL_some h
      exact tr (hc _ _ _ _ e) (hk _ _ _ _ _ h)
    · obtain ⟨x, σ1, e, h⟩ := zbA_some h
      exact tr (hc _ _ _ _ e) (hk _ _ _ _ _ h)
    · obtain ⟨x, σ1, e, h⟩ := zbV_some h
      exact tr (hc _ _ _ _ e) (hk _ _ _ _ _ h)
    · cases h
  all_goals simp only [zstp] at h
  all_goals (try (cases h; done))
  all_goals (repeat' split at h)
  all_goals (try (cases h; done))
  all_goals (try (exact hk _ _ _ _ _ h))
  all_goals (try (cases h; exact ⟨Nat.le_refl _, Nat.le_refl _⟩))
  all_goals (try (obtain ⟨h1, h2⟩ := hk _ _ _ _ _ h; exact ⟨h1, h2⟩))
  all_goals (
    obtain ⟨h1, h2⟩ := hk _ _ _ _ _ h
    exact ⟨Nat.le_trans (Nat.le_succ _) h1, Nat.le_trans (Nat.le_add_right _ _) h2⟩)
theorem zrun_grow : ∀ (n d j pc : Nat) (ls st : List zV) (σ : zS) (r : zV × zS), zrun zPP n d j pc ls st σ = some r → zGr σ r := by
  intro n
  induction n with
  | zero => intro d j pc ls st σ r h; cases h
  | succ n ih =>
    intro d j pc ls st σ r h
    rw [zrun_succ] at h
    refine zstp_grow (fun pc ls st σ1 r h => ih _ _ _ _ _ _ _ h) (fun i as σ1 r h => ?_) h
    unfold zcaln at h
    cases d with
    | zero => cases h
    | succ d' =>
      simp only at h
      split at h
      · exact ih _ _ _ _ _ _ _ h
      · cases h
section ZSIM
variable {L : Nat} {xs : Nat → Int}
/-- runs from any instruction, and calls, for n steps at most -/
def zS1 (l : Launch) (g : zG) (L : Nat) (xs : Nat → Int) (n : Nat) : Prop := ∀ (d j pc : Nat) (ls st : List zV) (σ : zS) (v : zV) (σ' : zS), zrun zPP n d j pc ls st σ = some (v, σ') →
  ∀ (p : Program) (e : Env) (s : State) (m : MethodId) (args : Array Value) (below : List Frame) (meth : Method) (c : Code) (R : Room) (Z : State → Prop) (c0 s0 : Nat) (H : Heap) (locs : List Loc) (lsA : Array Slot),
    zCx g L xs j p s m args meth c → d + 1 ≤ R.frames → 100 * (d + 1) ≤ R.locals → σ'.1 - c0 ≤ R.cells → σ'.2.1 - s0 ≤ R.slots →
    (∀ pc H locs lsA, zHP g σ' H → va_S (zAr g) s.heap H locs → zEnd j pc v → W p l e R s m args below meth c H locs (σ'.1 - c0) (σ'.2.1 - s0) Z (F0 m pc lsA (zrs g v))) →
    zRel g L xs j s ls st σ H locs lsA → c0 ≤ σ.1 → s0 ≤ σ.2.1 → W p l e R s m args below meth c H locs (σ.1 - c0) (σ.2.1 - s0) Z (F0 m (zpc j pc) lsA (st.map (zv g)))
def zpc0 : Prop := ∀ j, zpc j 0 = 0
theorem zmet {l : Launch} {g : zG} (hck : ∀ j, zcm j) (h00 : ∀ j, zpc j 0 = 0) {n : Nat} (ih : zS1 l g L xs n) {d i : Nat} {as : List zV} {σ : zS} {v : zV} {σ' : zS} (hmk : zmok i = true) (hI : zIv L xs σ) (has : zcs as) (hfit : (zexp as).length ≤ zPP.2.1 i) (h : zrun zPP n d i 0 (zini zPP i as) [] σ = some (v, σ')) :
    Met l (zy i) (zws i) (zrm d (σ'.1 - σ.1) (σ'.2.1 - σ.2.1)) (va_Pc (as.map (zv g)) (zPre g L xs σ)) (zQ g v σ') (σ'.1 - σ.1) (σ'.2.1 - σ.2.1) (zAr g) := by
  obtain ⟨m1, m2, m3, m4, m5, m6⟩ := zmok_of hmk
  refine Met.ofW (cc := (zm i).2.1) (maxL := zPP.2.1 i) (ret := (zm i).2.2.1) (ws' := zGw) m4 rfl ?_
  intro p e s m args below meth c s₁ B hml hv
  obtain ⟨rfl, hH, hK, hRO⟩ := hv
  have hall := atoms_spec (ws := zws i) B.pre
  have hts : ∀ w ∈ zGw, w.before ((as.map (zv g)).toArray) s = true := fun w hw => hall w (List.mem_cons_of_mem _ hw)
  have hown : s.vm.findClass (zcl i) = some m.cls := findClass_of_methodNamed B.named
  have hnm : meth.name = (zy i).name := (name_of_methodNamed B.named B.method).1
  have hgrow := zrun_grow n d i 0 _ [] _ _ h
  rw [lg_entry_eq]
  have K := ih d i 0 _ [] σ v σ' h p e s m ((as.map (zv g)).toArray) below meth c (headSpec (zws i) (zrm d (σ'.1 - σ.1) (σ'.2.1 - σ.2.1))).room (MQ below (zQ g v σ') ((as.map (zv g)).toArray) s (σ'.1 - σ.1) (σ'.2.1 - σ.2.1) (zAr g)) σ.1 σ.2.1 s.heap [] _
    ⟨B.exec, B.bytes, hml, hown, hts, fun z => hnm.trans z, hK, hRO⟩ (Nat.le_refl _) (Nat.le_refl _) (Nat.le_refl _) (Nat.le_refl _)
    (fun pc H locs lsA g1 g2 g3 => zMQ B.exec B.bytes B.returns B.notSynchronized g1 g2 g3)
    ⟨hH, hI, va_S.rf, zentry (g := g) hfit, zpad_cs (zexp_cs has), trivial⟩ (Nat.le_refl _) (Nat.le_refl _)
  rw [h00] at K
  exact W.cs (Nat.sub_self _).symm (Nat.sub_self _).symm K
theorem zsim {l : Launch} {g : zG} (hck : ∀ j, zcm j) (h00 : ∀ j, zpc j 0 = 0) (hmo : ∀ {k : Nat}, 0 < k → k < 329 → zmok k = true) : ∀ n, zS1 l g L xs n := by
  intro n
  induction n with
  | zero => intro d j pc ls st σ v σ' h; cases h
  | succ n ih =>
    intro d j pc ls st σ v σ' h p e s m args below meth c R Z c0 s0 H locs lsA hcx hRf hRl hRc hRs HE hr h0 hs0
    rw [zrun_succ] at h
    refine zone hcx hRf hRl hRc hRs hmo (fun pc ls st σ1 hk => zrun_grow n d j pc ls st σ1 _ hk) (fun pc ls st σ1 H locs lsA hk hr h0 hs0 => ih d j pc ls st σ1 v σ' hk p e s m args below meth c R Z c0 s0 H locs lsA hcx hRf hRl hRc hRs HE hr h0 hs0) (fun i as va σ1 hc hi0 hi has => ?_) HE (hck j pc) h hr h0 hs0
    have hI := hr.2.1
    unfold zcaln at hc
    cases d with
    | zero => cases hc
    | succ d' =>
      simp only at hc
      split at hc
      · next hf =>
        simp only [zfits, Bool.and_eq_true] at hf
        have hfit := Nat.le_of_ble_eq_true hf.1
        obtain ⟨q1, q2, q3, q4⟩ := zrun_pres hck n d' i 0 _ [] _ _ hI (zpad_cs (zexp_cs has)) trivial hc
        exact ⟨⟨d', rfl, zmet hck h00 ih (hmo hi0 hi) hI has hfit hc⟩, q2, q1, hf.2, q3, q4⟩
      · cases hc
end ZSIM
