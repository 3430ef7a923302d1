/-! the cells' entries behind writes and makings -/
theorem zP1 {D : va_G} {cl : List vw_C} {q : Nat × va_E} {H : Heap} (h : va_at D cl q H) : va_P D cl [q] H := fun k x hk => by
  cases k with
  | zero => cases hk; exact h
  | succ k => simp at hk
theorem zent_obj {g : zG} {σ : zS} {a ci : Nat} (h : (σ.2.2.1 a).1 = ci + 1) (hc : ci < 10) : zent g σ a = .inr (ci, (List.range (znf ci)).map fun k => zv g (zrd (zft ci k) (σ.2.2.2.1 a k) (σ.2.2.2.2 a k))) := by
  unfold zent
  rw [h, if_pos (by omega)]
  rfl
theorem zent_int {g : zG} {σ : zS} {a : Nat} (h : (σ.2.2.1 a).1 = 20 ∨ (σ.2.2.1 a).1 = 21 ∨ (σ.2.2.1 a).1 = 23) : zent g σ a = .inl (g.2.1 (σ.2.2.1 a).1, (σ.2.2.1 a).2, .inl fun j => Int32.ofInt (σ.2.2.2.2 a j)) := by
  unfold zent
  rw [if_neg (by omega), if_neg (by omega), if_pos (by omega)]
theorem zent_long {g : zG} {σ : zS} {a : Nat} (h : (σ.2.2.1 a).1 = 22) : zent g σ a = .inl (g.2.1 22, (σ.2.2.1 a).2, .inr (.inl fun j => Int64.ofInt (σ.2.2.2.2 a j))) := by
  unfold zent
  rw [if_neg (by omega), if_pos h]
theorem zent_ref {g : zG} {σ : zS} {a : Nat} (h : (σ.2.2.1 a).1 = 24 ∨ (σ.2.2.1 a).1 = 25) : zent g σ a = .inl (g.2.1 (σ.2.2.1 a).1, (σ.2.2.1 a).2, .inr (.inr (.inr (.inr fun j => zad g (σ.2.2.2.1 a j))))) := by
  unfold zent
  rw [if_neg (by omega), if_neg (by omega), if_neg (by omega)]
theorem zlist_get {α : Type} {n k : Nat} (f : Nat → α) (h : k < n) : ((List.range n).map f)[k]? = some (f k) := by
  rw [List.getElem?_map, List.getElem?_range h]
  rfl
theorem zlist_set {α : Type} {n k : Nat} {f f' : Nat → α} (hk : k < n) (h : ∀ j, j ≠ k → f' j = f j) : ((List.range n).map f).set k (f' k) = (List.range n).map f' := by
  apply List.ext_getElem?
  intro i
  by_cases hi : i < n
  · rw [zlist_get f' hi]
    by_cases hik : i = k
    · subst hik
      rw [List.getElem?_set_self (by simpa using hi)]
    · rw [List.getElem?_set_ne (Ne.symm hik), zlist_get f hi, h i hik]
  · rw [List.getElem?_eq_none (by simp; omega), List.getElem?_eq_none (by simp; omega)]
/-- an entry stays where shape, references and numbers stay -/
theorem zent_same {g : zG} {σ σ' : zS} {q : Nat} (h1 : σ'.2.2.1 q = σ.2.2.1 q) (h2 : ∀ j, σ'.2.2.2.1 q j = σ.2.2.2.1 q j) (h3 : ∀ j, σ'.2.2.2.2 q j = σ.2.2.2.2 q j) : zent g σ' q = zent g σ q := by
  unfold zent
  simp only [h1, h2, h3]
theorem zent_put {g : zG} {σ : zS} {a q k : Nat} {x : Int} (hq : q ≠ a) : zent g (σ.1, σ.2.1, σ.2.2.1, σ.2.2.2.1, zup σ.2.2.2.2 a k x) q = zent g σ q :=
  zent_same rfl (fun _ => rfl) (fun j => by show zup _ _ _ _ q j = _; unfold zup; rw [if_neg (fun h => hq h.1)])
theorem zent_putR {g : zG} {σ : zS} {a q k x : Nat} (hq : q ≠ a) : zent g (σ.1, σ.2.1, σ.2.2.1, zupR σ.2.2.2.1 a k x, σ.2.2.2.2) q = zent g σ q :=
  zent_same rfl (fun j => by show zupR _ _ _ _ q j = _; unfold zupR; rw [if_neg (fun h => hq h.1)]) (fun _ => rfl)
theorem zent_row {g : zG} {σ : zS} {a q : Nat} {f : Nat → Int} (hq : q ≠ a) : zent g (σ.1, σ.2.1, σ.2.2.1, σ.2.2.2.1, zrow σ.2.2.2.2 a f) q = zent g σ q :=
  zent_same rfl (fun _ => rfl) (fun j => by show zrow σ.2.2.2.2 _ _ q j = _; unfold zrow; rw [if_neg hq])
theorem zent_new {g : zG} {σ : zS} {q n : Nat} {x : Nat × Nat} {f : Nat → Int} (hq : q ≠ σ.1) : zent g (σ.1 + 1, n, zupS σ.2.2.1 σ.1 x, zrow σ.2.2.2.1 σ.1 (fun _ => 0), zrow σ.2.2.2.2 σ.1 f) q = zent g σ q :=
  zent_same (by show zupS _ _ _ q = _; unfold zupS; rw [if_neg hq]) (fun j => by show zrow σ.2.2.2.1 σ.1 (fun _ => 0) q j = _; unfold zrow; rw [if_neg hq]) (fun j => by show zrow σ.2.2.2.2 σ.1 f q j = _; unfold zrow; rw [if_neg hq])
theorem zbool_all : (vwCl.all fun q => (List.range q.2.2).all fun k => !decide (parseFieldDescriptor (q.2.1 k).2.2.1 = some .boolean) || decide ((q.2.1 k).2.2.1 = "Z")) = true := by decide +kernel
theorem zbool {ci : Nat} {q : vw_C} (h : vwCl[ci]? = some q) {k : Nat} (hk : k < q.2.2) (hb : parseFieldDescriptor (q.2.1 k).2.2.1 = some .boolean) : (q.2.1 k).2.2.1 = "Z" := by
  have h1 := List.all_eq_true.mp zbool_all q (List.mem_of_getElem? h)
  have h2 := List.all_eq_true.mp h1 k (List.mem_range.mpr hk)
  rw [hb] at h2
  simpa using h2
theorem zFl_of {ci k : Nat} {q : vw_C} (h : vwCl[ci]? = some q) : zFl ci k = q.2.1 k := by unfold zFl; rw [h]
/-- behind a write: the memory's picture -/
theorem zW1 {g : zG} {s : State} {σ σ' : zS} {H H1 : Heap} {locs locs1 : List Loc} {a : Nat} {E : va_E} (hH : zHP g σ H) (hS : va_S (zAr g) s.heap H locs) (ha : 9 ≤ a ∧ a < σ.1) (hA : zAft (g.2.2.1 + (a - 9)) E g.1 H H1 locs locs1) (hE : E = zent g σ' a) (ht : σ'.1 = σ.1) (he : ∀ q, q ≠ a → zent g σ' q = zent g σ q) : zHP g σ' H1 ∧ va_S (zAr g) s.heap H1 locs1 := by
  obtain ⟨h1, h2, h3, h4⟩ := hA
  subst hE
  refine ⟨hH.upd ha.1 ha.2 h2 h1 h3 ht he, by rw [h2]; exact hS.1, fun q q1 q2 => ?_, fun y hy => ?_⟩
  · rw [h3 q (fun e => q2 (by show g.2.2.1 ≤ q; omega))]
    exact hS.2.1 q q1 q2
  · rcases h4 y hy with h | h
    · exact hS.2.2 y h
    · show g.2.2.1 ≤ y.base; rw [h]; omega
/-- behind a making -/
theorem zM1 {g : zG} {s : State} {σ σ' : zS} {H H1 : Heap} {locs : List Loc} {E : va_E} (hH : zHP g σ H) (hS : va_S (zAr g) s.heap H locs) (hA : zMad E g.1 H H1) (hE : E = zent g σ' σ.1) (ht : σ'.1 = σ.1 + 1) (he : ∀ q, q ≠ σ.1 → zent g σ' q = zent g σ q) : zHP g σ' H1 ∧ va_S (zAr g) s.heap H1 locs ∧ va_rf (zad g σ.1) = .ref H.size := by
  obtain ⟨h1, h2, h3⟩ := hA
  subst hE
  refine ⟨hH.new h2 h1 h3 ht he, ⟨by rw [h2]; have := hS.1; omega, fun q q1 q2 => ?_, hS.2.2⟩, ?_⟩
  · rw [h3 q (by have := hS.1; omega)]
    exact hS.2.1 q q1 q2
  · rw [zad_in hH.1]
    show Value.ref _ = _
    rw [hH.2.1]
theorem zupS_at (M : Nat → Nat × Nat) (a : Nat) (x : Nat × Nat) : zupS M a x a = x := by unfold zupS; rw [if_pos rfl]
theorem zrow_at {α : Type} (M : Nat → Nat → α) (a : Nat) (f : Nat → α) : zrow M a f a = f := by funext j; unfold zrow; rw [if_pos rfl]
theorem zup_row (M : Nat → Nat → Int) (a k : Nat) (x : Int) (F : Int → Int32) : (fun j => F (zup M a k x a j)) = upd (fun j => F (M a j)) k (F x) := by
  funext j
  unfold zup upd
  by_cases c : j = k
  · simp [c]
  · simp [c]
theorem zup_rowL (M : Nat → Nat → Int) (a k : Nat) (x : Int) (F : Int → Int64) : (fun j => F (zup M a k x a j)) = vp_updL (fun j => F (M a j)) k (F x) := by
  funext j
  unfold zup vp_updL
  by_cases c : j = k
  · simp [c]
  · simp [c]
theorem zup_rowR (M : Nat → Nat → Nat) (a k : Nat) (x : Nat) (F : Nat → Option Nat) : (fun j => F (zupR M a k x a j)) = va_up (fun j => F (M a j)) k (F x) := by
  funext j
  unfold zupR va_up
  by_cases c : j = k
  · simp [c]
  · simp [c]
theorem zin_of {i : Int} {n : Nat} (hi : z32 i) (h0 : 0 ≤ i) (h1 : i < n) : vp_in (Int32.ofInt i) n ∧ (Int32.ofInt i).toNatClampNeg = i.toNat := by
  refine ⟨fun h => ?_, z_clamp hi⟩
  rcases h with h | h
  · exact absurd ((z_lt0 hi).mp h) (by omega)
  · rw [z_clamp hi] at h; omega
theorem zlenI {n : Nat} : Int32.ofNat n = Int32.ofInt (n : Int) := (Int32.ofInt_eq_ofNat).symm
theorem zK_at {g : zG} {s : State} (hK : va_K g.1 vwCl (ztys g) s) {k : Nat} {q : ClassId × FieldType} (h : (ztys g)[k]? = some q) : ArrOfT s q.1 q.2 ∧ va_RA s q.1 q.2 := hK.2 k q h
