/-! locals and stacks of the small machine beside the machine's -/
def zcs : List zV → Prop
  | [] => True
  | v :: l => zcan v ∧ zcs l
def zlv (g : zG) : Nat → List zV → List (Nat × Value)
  | _, [] => []
  | i, .inr (.inr (.inr _)) :: l => zlv g (i + 1) l
  | i, v :: l => (i, zv g v) :: zlv g (i + 1) l
theorem zlv_in {g : zG} : ∀ (l : List zV) (i : Nat) (q : Nat × Value), q ∈ zlv g i l → ∃ k v, l[k]? = some v ∧ v ≠ zU ∧ q = (i + k, zv g v)
  | [], i, q, h => by cases h
  | .inr (.inr (.inr u)) :: l, i, q, h => by
    obtain ⟨k, v, h1, h2, h3⟩ := zlv_in l (i + 1) q h
    exact ⟨k + 1, v, by simpa using h1, h2, by rw [h3, Nat.add_assoc, Nat.add_comm 1 k]⟩
  | .inl x :: l, i, q, h => by
    rcases List.mem_cons.mp h with rfl | h
    · exact ⟨0, .inl x, rfl, by simp, rfl⟩
    · obtain ⟨k, v, h1, h2, h3⟩ := zlv_in l (i + 1) q h
      exact ⟨k + 1, v, by simpa using h1, h2, by rw [h3, Nat.add_assoc, Nat.add_comm 1 k]⟩
  | .inr (.inl x) :: l, i, q, h => by
    rcases List.mem_cons.mp h with rfl | h
    · exact ⟨0, .inr (.inl x), rfl, by simp, rfl⟩
    · obtain ⟨k, v, h1, h2, h3⟩ := zlv_in l (i + 1) q h
      exact ⟨k + 1, v, by simpa using h1, h2, by rw [h3, Nat.add_assoc, Nat.add_comm 1 k]⟩
  | .inr (.inr (.inl x)) :: l, i, q, h => by
    rcases List.mem_cons.mp h with rfl | h
    · exact ⟨0, .inr (.inr (.inl x)), rfl, by simp, rfl⟩
    · obtain ⟨k, v, h1, h2, h3⟩ := zlv_in l (i + 1) q h
      exact ⟨k + 1, v, by simpa using h1, h2, by rw [h3, Nat.add_assoc, Nat.add_comm 1 k]⟩
theorem zlv_of {g : zG} : ∀ (l : List zV) (i k : Nat) (v : zV), l[k]? = some v → v ≠ zU → (i + k, zv g v) ∈ zlv g i l
  | [], _, _, _, h, _ => by simp at h
  | w :: l, i, 0, v, h, hv => by
    have e : w = v := by simpa using h
    subst e
    rcases w with x | x | x | x
    · exact List.mem_cons_self
    · exact List.mem_cons_self
    · exact List.mem_cons_self
    · exact absurd rfl hv
  | w :: l, i, k + 1, v, h, hv => by
    have h1 := zlv_of (g := g) l (i + 1) k v (by simpa using h) hv
    rw [show i + (k + 1) = i + 1 + k by omega]
    rcases w with x | x | x | x
    · exact List.mem_cons_of_mem _ h1
    · exact List.mem_cons_of_mem _ h1
    · exact List.mem_cons_of_mem _ h1
    · exact h1
theorem znth_get {α : Type} {d v : α} : ∀ {l : List α} {n : Nat}, znth d l n = v → v ≠ d → l[n]? = some v
  | [], n, h, hv => absurd h.symm hv
  | a :: l, 0, h, _ => by rw [← h]; rfl
  | a :: l, n + 1, h, hv => by
    have h1 := znth_get (l := l) (n := n) h hv
    simpa using h1
theorem znth_of {α : Type} {d v : α} : ∀ {l : List α} {n : Nat}, l[n]? = some v → znth d l n = v
  | [], n, h => by simp at h
  | a :: l, 0, h => by simpa [znth] using h
  | a :: l, n + 1, h => znth_of (l := l) (n := n) (by simpa using h)
theorem zcs_get : ∀ {l : List zV} {n : Nat} {v : zV}, zcs l → l[n]? = some v → zcan v
  | [], n, v, _, h => by simp at h
  | a :: l, 0, v, hc, h => by cases h; exact hc.1
  | a :: l, n + 1, v, hc, h => zcs_get (l := l) (n := n) hc.2 (by simpa using h)
theorem zset_get : ∀ {l : List zV} {n k : Nat} {v w : zV}, (zset l n v)[k]? = some w → (k = n ∧ w = v) ∨ (k ≠ n ∧ l[k]? = some w)
  | [], n, k, v, w, h => by simp [zset] at h
  | a :: l, 0, 0, v, w, h => by simp [zset] at h; exact Or.inl ⟨rfl, h.symm⟩
  | a :: l, 0, k + 1, v, w, h => Or.inr ⟨by omega, by simpa [zset] using h⟩
  | a :: l, n + 1, 0, v, w, h => Or.inr ⟨by omega, by simpa [zset] using h⟩
  | a :: l, n + 1, k + 1, v, w, h => by
    rcases zset_get (l := l) (n := n) (k := k) (v := v) (w := w) (by simpa [zset] using h) with ⟨h1, h2⟩ | ⟨h1, h2⟩
    · exact Or.inl ⟨by omega, h2⟩
    · exact Or.inr ⟨by omega, by simpa using h2⟩
theorem zset_cs : ∀ {l : List zV} {n : Nat} {v : zV}, zcs l → zcan v → zcs (zset l n v)
  | [], _, _, _, _ => trivial
  | _ :: _, 0, _, h, hv => ⟨hv, h.2⟩
  | _ :: l, n + 1, _, h, hv => ⟨h.1, zset_cs (l := l) (n := n) h.2 hv⟩
theorem zkil_get {ls : List zV} {n k : Nat} {w : zV} (h : (zkil ls n)[k]? = some w) (hw : w ≠ zU) : ls[k]? = some w ∧ ¬ (k + 1 = n ∧ ∃ x, w = zL x) := by
  cases n with
  | zero => exact ⟨h, by omega⟩
  | succ n =>
    simp only [zkil] at h
    split at h
    · rcases zset_get h with ⟨h1, h2⟩ | ⟨h1, h2⟩
      · exact absurd h2 hw
      · exact ⟨h2, by omega⟩
    · next hn =>
      refine ⟨h, fun ⟨e, x, ex⟩ => ?_⟩
      have : k = n := by omega
      subst this
      subst ex
      exact hn x (znth_of h)
theorem zkil_cs {ls : List zV} {n : Nat} (h : zcs ls) : zcs (zkil ls n) := by
  cases n with
  | zero => exact h
  | succ n =>
    simp only [zkil]
    split
    · exact zset_cs h trivial
    · exact h
theorem zst1_cs {ls : List zV} {n : Nat} {v : zV} (h : zcs ls) (hv : zcan v) : zcs (zst1 ls n v) := zset_cs (zkil_cs h) hv
theorem zst2_cs {ls : List zV} {n : Nat} {v : zV} (h : zcs ls) (hv : zcan v) : zcs (zst2 ls n v) := zset_cs (zset_cs (zkil_cs h) hv) trivial
theorem zrf_cat (r : Option Nat) : (va_rf r).category = 1 := by cases r <;> rfl
theorem zv_cat {g : zG} {v : zV} (h : (zv g v).category = 2) : ∃ x, v = zL x := by
  rcases v with x | x | x | x
  · cases h
  · exact ⟨x, rfl⟩
  · have : (va_rf (zad g x)).category = 2 := h
    rw [zrf_cat] at this
    cases this
  · cases h
theorem zst1_sub {g : zG} {ls : List zV} {n : Nat} {v : zV} : ∀ q ∈ zlv g 0 (zst1 ls n v), q ∈ (n, zv g v) :: (zlv g 0 ls).filter (fun q => !(q.1 == n) && !(q.1 + 1 == n && q.2.category == 2)) := by
  intro q hq
  obtain ⟨k, w, h1, h2, rfl⟩ := zlv_in _ _ _ hq
  rw [Nat.zero_add]
  rcases zset_get h1 with ⟨rfl, rfl⟩ | ⟨h3, h4⟩
  · exact List.mem_cons_self
  · obtain ⟨h5, h6⟩ := zkil_get h4 h2
    refine List.mem_cons_of_mem _ (List.mem_filter.mpr ⟨by have := zlv_of (g := g) ls 0 k w h5 h2; rwa [Nat.zero_add] at this, ?_⟩)
    simp only [Bool.and_eq_true, Bool.not_eq_true', beq_eq_false_iff_ne, ne_eq, Bool.and_eq_false_iff]
    refine ⟨h3, ?_⟩
    by_cases c : k + 1 = n
    · right
      intro hc
      exact h6 ⟨c, zv_cat hc⟩
    · left; exact c
theorem zst2_sub {g : zG} {ls : List zV} {n : Nat} {v : zV} : ∀ q ∈ zlv g 0 (zst2 ls n v), q ∈ (n, zv g v) :: (zlv g 0 ls).filter (fun q => !(q.1 == n) && (!(q.1 == n + 1) && !(q.1 + 1 == n && q.2.category == 2))) := by
  intro q hq
  obtain ⟨k, w, h1, h2, rfl⟩ := zlv_in _ _ _ hq
  rw [Nat.zero_add]
  rcases zset_get h1 with ⟨rfl, e⟩ | ⟨h3, h4⟩
  · exact absurd e h2
  rcases zset_get h4 with ⟨rfl, rfl⟩ | ⟨h5, h6⟩
  · exact List.mem_cons_self
  · obtain ⟨h7, h8⟩ := zkil_get h6 h2
    refine List.mem_cons_of_mem _ (List.mem_filter.mpr ⟨by have := zlv_of (g := g) ls 0 k w h7 h2; rwa [Nat.zero_add] at this, ?_⟩)
    simp only [Bool.and_eq_true, Bool.not_eq_true', beq_eq_false_iff_ne, ne_eq, Bool.and_eq_false_iff]
    refine ⟨h5, h3, ?_⟩
    by_cases c : k + 1 = n
    · right
      intro hc
      exact h8 ⟨c, zv_cat hc⟩
    · left; exact c
theorem zhas_mono {ls : Array Slot} {nL : Nat} {l l' : List (Nat × Value)} (h : lv_has ls nL l) (hs : ∀ q ∈ l', q ∈ l) : lv_has ls nL l' := ⟨h.1, h.2.1, fun q hq => h.2.2 q (hs q hq)⟩
/-- a local that is read -/
theorem zld {g : zG} {ls : List zV} {lsA : Array Slot} {nL n : Nat} {v : zV} (h : lv_has lsA nL (zlv g 0 ls)) (hv : znth zU ls n = v) (hu : v ≠ zU) : lsA[n]? = some (.val (zv g v)) := by
  have h1 := h.2.2 _ (zlv_of (g := g) ls 0 n v (znth_get hv hu) hu)
  simpa using h1
theorem zcs_nth {ls : List zV} {n : Nat} {v : zV} (h : zcs ls) (hv : znth zU ls n = v) (hu : v ≠ zU) : zcan v := zcs_get h (znth_get hv hu)
/-- a method's locals at its entry -/
theorem zexp_len {g : zG} : ∀ (as : List zV), (lg_sl (as.map (zv g))).length = (zexp as).length
  | [] => rfl
  | .inl x :: l => by
    show (lg_sl (zv g (.inl x) :: l.map (zv g))).length = (.inl x :: zexp l).length
    have := zexp_len (g := g) l
    simp only [lg_sl, List.flatMap_cons, List.length_append, List.length_cons] at this ⊢
    rw [this]
    show 1 + _ = _
    omega
  | .inr (.inl x) :: l => by
    show (lg_sl (zv g (.inr (.inl x)) :: l.map (zv g))).length = (zL x :: zU :: zexp l).length
    have := zexp_len (g := g) l
    simp only [lg_sl, List.flatMap_cons, List.length_append, List.length_cons] at this ⊢
    rw [this]
    show 2 + _ = _
    omega
  | .inr (.inr (.inl x)) :: l => by
    show (lg_sl (zv g (.inr (.inr (.inl x))) :: l.map (zv g))).length = (zA x :: zexp l).length
    have := zexp_len (g := g) l
    have hc : (zv g (.inr (.inr (.inl x)))).category = 1 := zrf_cat _
    simp only [lg_sl, List.flatMap_cons, List.length_append, List.length_cons, hc] at this ⊢
    rw [this]
    show 1 + _ = _
    omega
  | .inr (.inr (.inr x)) :: l => by
    show (lg_sl (zv g (.inr (.inr (.inr x))) :: l.map (zv g))).length = (zU :: zexp l).length
    have := zexp_len (g := g) l
    simp only [lg_sl, List.flatMap_cons, List.length_append, List.length_cons] at this ⊢
    rw [this]
    show 1 + _ = _
    omega
theorem zexp_in {g : zG} : ∀ (as : List zV) (i k : Nat) (v : zV), (zexp as)[k]? = some v → v ≠ zU → (i + k, zv g v) ∈ lv_args i (as.map (zv g))
  | [], _, _, _, h, _ => by simp [zexp] at h
  | .inl x :: l, i, k, v, h, hv => by
    show _ ∈ (i, zv g (.inl x)) :: lv_args (i + 1) (l.map (zv g))
    cases k with
    | zero => cases h; exact List.mem_cons_self
    | succ k =>
      have := zexp_in (g := g) l (i + 1) k v (by simpa [zexp] using h) hv
      rw [show i + (k + 1) = i + 1 + k by omega]
      exact List.mem_cons_of_mem _ this
  | .inr (.inl x) :: l, i, k, v, h, hv => by
    show _ ∈ (i, zv g (.inr (.inl x))) :: lv_args (i + 2) (l.map (zv g))
    match k, h with
    | 0, h => cases h; exact List.mem_cons_self
    | 1, h => cases h; exact absurd rfl hv
    | k + 2, h =>
      have := zexp_in (g := g) l (i + 2) k v (by simpa [zexp] using h) hv
      rw [show i + (k + 2) = i + 2 + k by omega]
      exact List.mem_cons_of_mem _ this
  | .inr (.inr (.inl x)) :: l, i, k, v, h, hv => by
    have hc : (zv g (.inr (.inr (.inl x)))).category = 1 := zrf_cat _
    show _ ∈ (i, zv g (.inr (.inr (.inl x)))) :: lv_args (if (zv g (.inr (.inr (.inl x)))).category = 2 then i + 2 else i + 1) (l.map (zv g))
    rw [hc]
    cases k with
    | zero => cases h; exact List.mem_cons_self
    | succ k =>
      have := zexp_in (g := g) l (i + 1) k v (by simpa [zexp] using h) hv
      rw [show i + (k + 1) = i + 1 + k by omega]
      exact List.mem_cons_of_mem _ this
  | .inr (.inr (.inr x)) :: l, i, k, v, h, hv => by
    show _ ∈ (i, zv g (.inr (.inr (.inr x)))) :: lv_args (i + 1) (l.map (zv g))
    cases k with
    | zero => cases h; exact absurd rfl hv
    | succ k =>
      have := zexp_in (g := g) l (i + 1) k v (by simpa [zexp] using h) hv
      rw [show i + (k + 1) = i + 1 + k by omega]
      exact List.mem_cons_of_mem _ this
theorem zpad_get : ∀ {l : List zV} {n k : Nat} {v : zV}, (zpad l n)[k]? = some v → v ≠ zU → l[k]? = some v
  | [], n, k, v, h, hv => by
    simp only [zpad, List.getElem?_replicate] at h
    split at h
    · cases h; exact absurd rfl hv
    · cases h
  | a :: l, 0, k, v, h, hv => h
  | a :: l, n + 1, 0, v, h, hv => h
  | a :: l, n + 1, k + 1, v, h, hv => by
    have := zpad_get (l := l) (n := n) (k := k) (v := v) (by simpa [zpad] using h) hv
    simpa using this
theorem zentry {P : zP} {g : zG} {j : Nat} {as : List zV} (h : (zexp as).length ≤ P.2.1 j) : lv_has ((lg_sl (as.map (zv g)) ++ List.replicate (P.2.1 j - (lg_sl (as.map (zv g))).length) Slot.unset).toArray) (P.2.1 j) (zlv g 0 (zini P j as)) := by
  refine zhas_mono (lv_entry (as.map (zv g)) (n := P.2.1 j) (by rw [zexp_len]; exact h)) fun q hq => ?_
  obtain ⟨k, v, h1, h2, rfl⟩ := zlv_in _ _ _ hq
  exact zexp_in as 0 k v (zpad_get h1 h2) h2
theorem zexp_cs : ∀ {as : List zV}, zcs as → zcs (zexp as)
  | [], _ => trivial
  | .inl x :: l, h => ⟨h.1, zexp_cs (as := l) h.2⟩
  | .inr (.inl x) :: l, h => ⟨h.1, trivial, zexp_cs (as := l) h.2⟩
  | .inr (.inr (.inl x)) :: l, h => ⟨h.1, zexp_cs (as := l) h.2⟩
  | .inr (.inr (.inr x)) :: l, h => ⟨h.1, zexp_cs (as := l) h.2⟩
theorem zrep_cs : ∀ (n : Nat), zcs (List.replicate n zU)
  | 0 => trivial
  | n + 1 => ⟨trivial, zrep_cs n⟩
theorem zpad_cs : ∀ {l : List zV} {n : Nat}, zcs l → zcs (zpad l n)
  | [], n, _ => zrep_cs n
  | a :: l, 0, h => h
  | a :: l, n + 1, h => ⟨h.1, zpad_cs (l := l) (n := n) h.2⟩
theorem zcs_app : ∀ {l m : List zV}, zcs l → zcs m → zcs (l ++ m)
  | [], _, _, h => h
  | a :: l, m, h, h2 => ⟨h.1, zcs_app (l := l) h.2 h2⟩
theorem zcs_take : ∀ {l : List zV} (n : Nat), zcs l → zcs (l.take n)
  | [], n, _ => by simp [zcs]
  | a :: l, 0, h => trivial
  | a :: l, n + 1, h => ⟨h.1, zcs_take (l := l) n h.2⟩
theorem zcs_drop : ∀ {l : List zV} (n : Nat), zcs l → zcs (l.drop n)
  | [], n, _ => by simp [zcs]
  | a :: l, 0, h => h
  | a :: l, n + 1, h => zcs_drop (l := l) n h.2
theorem zcs_rev : ∀ {l : List zV}, zcs l → zcs l.reverse
  | [], _ => trivial
  | a :: l, h => by
    rw [List.reverse_cons]
    exact zcs_app (zcs_rev (l := l) h.2) ⟨h.1, trivial⟩
