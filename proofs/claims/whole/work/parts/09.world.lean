/-! THE SMALL MACHINE'S MEMORY IN THE MACHINE'S HEAP -/
/-- class numbers and slots, array classes by kinds, the first address, the fixed addresses -/
abbrev zG : Type := va_G × (Nat → ClassId) × Nat × (Nat → Option Nat)
def zad (g : zG) (q : Nat) : Option Nat := if q < 9 then g.2.2.2 q else some (g.2.2.1 + (q - 9))
def zv (g : zG) : zV → Value
  | .inl x => .int (Int32.ofInt x)
  | .inr (.inl x) => .long (Int64.ofInt x)
  | .inr (.inr (.inl a)) => va_rf (zad g a)
  | _ => .null
def zcan : zV → Prop
  | .inl x => z32 x
  | .inr (.inl x) => z64 x
  | _ => True
def zent (g : zG) (σ : zS) (q : Nat) : va_E :=
  if (σ.2.2.1 q).1 < 20 then .inr ((σ.2.2.1 q).1 - 1, (List.range (znf ((σ.2.2.1 q).1 - 1))).map fun k => zv g (zrd (zft ((σ.2.2.1 q).1 - 1) k) (σ.2.2.2.1 q k) (σ.2.2.2.2 q k)))
  else if (σ.2.2.1 q).1 = 22 then .inl (g.2.1 22, (σ.2.2.1 q).2, .inr (.inl fun j => Int64.ofInt (σ.2.2.2.2 q j)))
  else if (σ.2.2.1 q).1 < 24 then .inl (g.2.1 (σ.2.2.1 q).1, (σ.2.2.1 q).2, .inl fun j => Int32.ofInt (σ.2.2.2.2 q j))
  else .inl (g.2.1 (σ.2.2.1 q).1, (σ.2.2.1 q).2, .inr (.inr (.inr (.inr fun j => zad g (σ.2.2.2.1 q j)))))
def ztys (g : zG) : List (ClassId × FieldType) := [(g.2.1 20, .int), (g.2.1 21, .char), (g.2.1 22, .long), (g.2.1 23, .boolean), (g.2.1 24, .object "TreesLendRings$Rings"), (g.2.1 25, .object "TreesLendRings$Text")]
def zHP (g : zG) (σ : zS) (H : Heap) : Prop := 9 ≤ σ.1 ∧ H.size = g.2.2.1 + (σ.1 - 9) ∧ ∀ q, 9 ≤ q → q < σ.1 → va_at g.1 vwCl (g.2.2.1 + (q - 9), zent g σ q) H
def zkd (k : Nat) : Prop := (1 ≤ k ∧ k ≤ 10) ∨ (20 ≤ k ∧ k ≤ 25)
def zlg (k j : Nat) : Bool := k == 22 || (decide (k < 20) && zft (k - 1) j == 1)
def zcn (k j : Nat) (x : Int) : Prop := match zlg k j with
  | true => z64 x
  | false => z32 x
/-- what holds of the small machine's memory alone; B: the fixed cells -/
def zOK (B σ : zS) : Prop := (∀ q, σ.1 ≤ q → σ.2.2.1 q = (0, 0)) ∧ (∀ q, q < 9 → σ.2.2.1 q = B.2.2.1 q ∧ σ.2.2.2.1 q = B.2.2.2.1 q ∧ σ.2.2.2.2 q = B.2.2.2.2 q) ∧ (∀ q, 9 ≤ q → q < σ.1 → zkd (σ.2.2.1 q).1) ∧ (∀ q, (σ.2.2.1 q).2 ≤ 100000) ∧ ∀ q j, zcn (σ.2.2.1 q).1 j (σ.2.2.2.2 q j)
def zAr (g : zG) : Nat → Prop := fun q => g.2.2.1 ≤ q
def zs0 : String := "lends  ages   pays   oak    year   person lend   back   pass   day    kind   own    held   who    left   of     to     is     root   rings  if     then   else   end    or     and    not    "
def zs1 : String := "<>=#+-*/(),;"
def zb0 : List Int := [108, 101, 110, 100, 115, 32, 32, 97, 103, 101, 115, 32, 32, 32, 112, 97, 121, 115, 32, 32, 32, 111, 97, 107, 32, 32, 32, 32, 121, 101, 97, 114, 32, 32, 32, 112, 101, 114, 115, 111, 110, 32, 108, 101, 110, 100, 32, 32, 32, 98, 97, 99, 107, 32, 32, 32, 112, 97, 115, 115, 32, 32, 32, 100, 97, 121, 32, 32, 32, 32, 107, 105, 110, 100, 32, 32, 32, 111, 119, 110, 32, 32, 32, 32, 104, 101, 108, 100, 32, 32, 32, 119, 104, 111, 32, 32, 32, 32, 108, 101, 102, 116, 32, 32, 32, 111, 102, 32, 32, 32, 32, 32, 116, 111, 32, 32, 32, 32, 32, 105, 115, 32, 32, 32, 32, 32, 114, 111, 111, 116, 32, 32, 32, 114, 105, 110, 103, 115, 32, 32, 105, 102, 32, 32, 32, 32, 32, 116, 104, 101, 110, 32, 32, 32, 101, 108, 115, 101, 32, 32, 32, 101, 110, 100, 32, 32, 32, 32, 111, 114, 32, 32, 32, 32, 32, 97, 110, 100, 32, 32, 32, 32, 110, 111, 116, 32, 32, 32, 32]
def zb1 : List Int := [60, 62, 61, 35, 43, 45, 42, 47, 40, 41, 44, 59]
def zbyt : List (List Int32) := [zb0.map Int32.ofInt, zb1.map Int32.ofInt]
/-- the fixed cells: the script, two static arrays, two texts and their bytes -/
def zB (L : Nat) (xs : Nat → Int) : zS := (9, 0, fun q => match q with
    | 1 => (30, L)
    | 2 => (31, 3)
    | 3 => (31, 3)
    | 4 => (32, 0)
    | 5 => (32, 0)
    | 6 => (33, 189)
    | 7 => (33, 12)
    | _ => (0, 0),
  fun q k => match q, k with
    | 4, 0 => 6
    | 5, 0 => 7
    | _, _ => 0,
  fun q j => match q with
    | 1 => xs j
    | 2 => znth 0 [-99, -9, 0] j
    | 3 => znth 0 [99, 99, 10] j
    | 6 => znth 0 zb0 j
    | 7 => znth 0 zb1 j
    | _ => 0)
/-- what is said of the cells that nobody writes, and of the tables -/
def zRO (g : zG) (L : Nat) (xs : Nat → Int) (U : State) (H : Heap) : Prop :=
  g.2.2.2 0 = none ∧
  (∃ b, g.2.2.2 1 = some b ∧ b < g.2.2.1 ∧ b < H.size ∧ va_X b L (fun j => Int32.ofInt (xs j)) U H) ∧
  (∃ t, g.2.2.2 2 = some t ∧ va_T .int t 3 (fun j => .int (Int32.ofInt (znth 0 [-99, -9, 0] j))) (zAr g) U H ∧ va_Z "TreesLendRings$Judge" "LEAST" "[I" (.ref t) (zAr g) U H) ∧
  (∃ t, g.2.2.2 3 = some t ∧ va_T .int t 3 (fun j => .int (Int32.ofInt (znth 0 [99, 99, 10] j))) (zAr g) U H ∧ va_Z "TreesLendRings$Judge" "MOST" "[I" (.ref t) (zAr g) U H) ∧
  (∃ adK adV : Nat → Nat, g.2.2.2 4 = some (adK 0) ∧ g.2.2.2 5 = some (adK 1) ∧ g.2.2.2 6 = some (adV 0) ∧ g.2.2.2 7 = some (adV 1) ∧ vk_S 2 [189, 12] zbyt adK adV (zAr g) U H ∧ vk_R "TreesLendRings$Sign" 9 zs0 (adK 0) U ∧ vk_R "TreesLendRings$Sign" 17 zs1 (adK 1) U) ∧
  va_Z "java/lang/String" "COMPACT_STRINGS" "Z" (.int 1) (zAr g) U H ∧
  va_Z "jdk/internal/util/Preconditions" "SIOOBE_FORMATTER" "Ljava/util/function/BiFunction;" (va_rf (g.2.2.2 8)) (zAr g) U H ∧
  (va_Nw (.methodLinkNest "TreesLendRings$Town" 95 ⟨"TreesLendRings", "isYear", "(I)Z"⟩ "TreesLendRings") U ∧ va_Nw (.methodLinkNest "TreesLendRings$Judge" 25 ⟨"TreesLendRings", "isYear", "(I)Z"⟩ "TreesLendRings") U ∧ va_Nw (.methodLinkNest "TreesLendRings$Rings" 50 ⟨"TreesLendRings", "isYear", "(I)Z"⟩ "TreesLendRings") U) ∧
  va_Nw (.castable "[I" "java/lang/Cloneable") U ∧ va_AO "TreesLendRings$Rings" U ∧ va_AO "TreesLendRings$Text" U
theorem zRO.kept {g : zG} {L : Nat} {xs : Nat → Int} {U : State} {H H1 : Heap} (h : zRO g L xs U H) (hz : H.size ≤ H1.size) (hq : ∀ a : Nat, a < H.size → ¬ zAr g a → H1[a]? = H[a]?) : zRO g L xs U H1 := by
  obtain ⟨h0, ⟨b, h1, h2, h3, h4⟩, ⟨t, h5, h6, h7⟩, ⟨t', h8, h9, h10⟩, ⟨adK, adV, k1, k2, k3, k4, k5, k6, k7⟩, h11, h12, h13⟩ := h
  exact ⟨h0, ⟨b, h1, h2, by omega, h4.kept (hq b h3 (Nat.not_le.mpr h2))⟩, ⟨t, h5, h6.kept hq, h7.kept hq⟩, ⟨t', h8, h9.kept hq, h10.kept hq⟩, ⟨adK, adV, k1, k2, k3, k4, k5.kept hq, k6, k7⟩, h11.kept hq, h12.kept hq, h13⟩
theorem zRO.warm {g : zG} {L : Nat} {xs : Nat → Int} {s U : State} {H : Heap} (hW : s.WarmedH U.vm) (h : zRO g L xs s H) : zRO g L xs U H := by
  obtain ⟨h0, ⟨b, h1, h2, h3, h4⟩, ⟨t, h5, h6, h7⟩, ⟨t', h8, h9, h10⟩, ⟨adK, adV, k1, k2, k3, k4, k5, k6, k7⟩, h11, h12, ⟨n1, n2, n3⟩, h13⟩ := h
  exact ⟨h0, ⟨b, h1, h2, h3, h4.moved hW.alike⟩, ⟨t, h5, h6.moved hW.alike, h7.moved hW.alike⟩, ⟨t', h8, h9.moved hW.alike, h10.moved hW.alike⟩, ⟨adK, adV, k1, k2, k3, k4, k5.moved hW.alike, k6.warm hW, k7.warm hW⟩, h11.moved hW.alike, h12.moved hW.alike, ⟨n1.warmM hW, n2.warmM hW, n3.warmM hW⟩, h13.1.warmC hW, h13.2.1.moved hW.alike, h13.2.2.moved hW.alike⟩
theorem zRO.same {g : zG} {L : Nat} {xs : Nat → Int} {u U : State} {H : Heap} (hv : U.vm = u.vm) (h : zRO g L xs u H) : zRO g L xs U H := by
  have ha : u.vm.Alike U.vm := by rw [hv]; exact Vm.Alike.refl _
  obtain ⟨h0, ⟨b, h1, h2, h3, h4⟩, ⟨t, h5, h6, h7⟩, ⟨t', h8, h9, h10⟩, ⟨adK, adV, k1, k2, k3, k4, k5, k6, k7⟩, h11, h12, ⟨n1, n2, n3⟩, h13⟩ := h
  exact ⟨h0, ⟨b, h1, h2, h3, h4.moved ha⟩, ⟨t, h5, h6.moved ha, h7.moved ha⟩, ⟨t', h8, h9.moved ha, h10.moved ha⟩, ⟨adK, adV, k1, k2, k3, k4, k5.moved ha, k6.same hv, k7.same hv⟩, h11.moved ha, h12.moved ha, ⟨va_Nw.same rfl hv.symm n1, va_Nw.same rfl hv.symm n2, va_Nw.same rfl hv.symm n3⟩, va_Nw.same rfl hv.symm h13.1, h13.2.1.moved ha, h13.2.2.moved ha⟩
/-- a reference that has a shape is an address -/
theorem zad_some {g : zG} {L : Nat} {xs : Nat → Int} {U : State} {H : Heap} {σ : zS} (hR : zRO g L xs U H) (hO : zOK (zB L xs) σ) {a : Nat} (ha : (σ.2.2.1 a).1 ≠ 0) : ∃ x, zad g a = some x ∧ a ≠ 0 := by
  by_cases h9 : a < 9
  · rw [(hO.2.1 a h9).1] at ha
    unfold zad
    rw [if_pos h9]
    obtain ⟨-, ⟨b, h1, -⟩, ⟨t, h2, -⟩, ⟨t', h3, -⟩, ⟨adK, adV, k1, k2, k3, k4, -⟩, -⟩ := hR
    rcases (show a = 0 ∨ a = 1 ∨ a = 2 ∨ a = 3 ∨ a = 4 ∨ a = 5 ∨ a = 6 ∨ a = 7 ∨ a = 8 by omega) with rfl | rfl | rfl | rfl | rfl | rfl | rfl | rfl | rfl
    · exact absurd rfl ha
    · exact ⟨_, h1, by decide⟩
    · exact ⟨_, h2, by decide⟩
    · exact ⟨_, h3, by decide⟩
    · exact ⟨_, k1, by decide⟩
    · exact ⟨_, k2, by decide⟩
    · exact ⟨_, k3, by decide⟩
    · exact ⟨_, k4, by decide⟩
    · exact absurd rfl ha
  · exact ⟨_, by unfold zad; rw [if_neg h9], by omega⟩
theorem zad_0 {g : zG} {L : Nat} {xs : Nat → Int} {U : State} {H : Heap} (hR : zRO g L xs U H) : zad g 0 = none := hR.1
/-- a kind below 30 lies in the world -/
theorem zOK.in {L : Nat} {xs : Nat → Int} {σ : zS} (hO : zOK (zB L xs) σ) {a : Nat} (h1 : (σ.2.2.1 a).1 ≠ 0) (h2 : (σ.2.2.1 a).1 < 30) : 9 ≤ a ∧ a < σ.1 := by
  constructor
  · apply Nat.le_of_not_lt
    intro h9
    rw [(hO.2.1 a h9).1] at h1 h2
    rcases (show a = 0 ∨ a = 1 ∨ a = 2 ∨ a = 3 ∨ a = 4 ∨ a = 5 ∨ a = 6 ∨ a = 7 ∨ a = 8 by omega) with rfl | rfl | rfl | rfl | rfl | rfl | rfl | rfl | rfl <;> first | exact absurd rfl h1 | exact absurd h2 (by simp [zB])
  · apply Nat.lt_of_not_le
    intro h
    rw [hO.1 a h] at h1
    exact h1 rfl
theorem zad_in {g : zG} {a : Nat} (h : 9 ≤ a) : zad g a = some (g.2.2.1 + (a - 9)) := by unfold zad; rw [if_neg (by omega)]
theorem zHP.at {g : zG} {L : Nat} {xs : Nat → Int} {σ : zS} {H : Heap} (hH : zHP g σ H) (hO : zOK (zB L xs) σ) {a : Nat} (h1 : (σ.2.2.1 a).1 ≠ 0) (h2 : (σ.2.2.1 a).1 < 30) : zad g a = some (g.2.2.1 + (a - 9)) ∧ va_at g.1 vwCl (g.2.2.1 + (a - 9), zent g σ a) H := by
  obtain ⟨h3, h4⟩ := hO.in h1 h2
  exact ⟨zad_in h3, hH.2.2 a h3 h4⟩
/-- one cell is written -/
theorem zHP.upd {g : zG} {σ σ' : zS} {H H' : Heap} (hH : zHP g σ H) {a : Nat} (ha : 9 ≤ a) (ha2 : a < σ.1) (hz : H'.size = H.size) (hat : va_at g.1 vwCl (g.2.2.1 + (a - 9), zent g σ' a) H') (ho : ∀ q : Nat, q ≠ g.2.2.1 + (a - 9) → H'[q]? = H[q]?) (ht : σ'.1 = σ.1) (he : ∀ q, q ≠ a → zent g σ' q = zent g σ q) : zHP g σ' H' := by
  obtain ⟨h1, h2, h3⟩ := hH
  refine ⟨by omega, by rw [hz, ht]; exact h2, fun q q1 q2 => ?_⟩
  by_cases hq : q = a
  · subst hq; exact hat
  · rw [he q hq]
    exact (h3 q q1 (by omega)).kept (ho _ (by show g.2.2.1 + (q - 9) ≠ _; omega))
/-- one cell is made -/
theorem zHP.new {g : zG} {σ σ' : zS} {H H' : Heap} (hH : zHP g σ H) (hz : H'.size = H.size + 1) (hat : va_at g.1 vwCl (H.size, zent g σ' σ.1) H') (ho : ∀ q : Nat, q < H.size → H'[q]? = H[q]?) (ht : σ'.1 = σ.1 + 1) (he : ∀ q, q ≠ σ.1 → zent g σ' q = zent g σ q) : zHP g σ' H' := by
  obtain ⟨h1, h2, h3⟩ := hH
  refine ⟨by omega, by rw [hz, ht]; omega, fun q q1 q2 => ?_⟩
  by_cases hq : q = σ.1
  · subst hq
    rw [show g.2.2.1 + (σ.1 - 9) = H.size by omega]
    exact hat
  · rw [he q hq]
    exact (h3 q q1 (by omega)).kept (ho _ (by show g.2.2.1 + (q - 9) < _; omega))
theorem zcn_0 (k j : Nat) : zcn k j 0 := by
  unfold zcn
  split
  · exact ⟨by decide, by decide⟩
  · exact ⟨by decide, by decide⟩
theorem zcn_32 {k j : Nat} {x : Int} (h : zlg k j = false) (hx : z32 x) : zcn k j x := by unfold zcn; rw [h]; exact hx
theorem zcn_64 {k j : Nat} {x : Int} (h : zlg k j = true) (hx : z64 x) : zcn k j x := by unfold zcn; rw [h]; exact hx
theorem zcn_of32 {k j : Nat} {x : Int} (h : zlg k j = false) (hx : zcn k j x) : z32 x := by unfold zcn at hx; rw [h] at hx; exact hx
theorem zcn_of64 {k j : Nat} {x : Int} (h : zlg k j = true) (hx : zcn k j x) : z64 x := by unfold zcn at hx; rw [h] at hx; exact hx
/-- the memory's own law behind a write of a number -/
theorem zOK.put {L : Nat} {xs : Nat → Int} {σ : zS} (hO : zOK (zB L xs) σ) {a k : Nat} (ha : 9 ≤ a) {x : Int} (hx : zcn (σ.2.2.1 a).1 k x) : zOK (zB L xs) (σ.1, σ.2.1, σ.2.2.1, σ.2.2.2.1, zup σ.2.2.2.2 a k x) := by
  obtain ⟨h1, h2, h3, h4, h5⟩ := hO
  refine ⟨h1, fun q hq => ⟨(h2 q hq).1, (h2 q hq).2.1, ?_⟩, h3, h4, fun q j => ?_⟩
  · rw [← (h2 q hq).2.2]
    funext j
    show zup _ _ _ _ q j = _
    unfold zup
    rw [if_neg (by omega)]
  · show zcn (σ.2.2.1 q).1 j (zup σ.2.2.2.2 a k x q j)
    unfold zup
    split
    · next c => rw [c.1, c.2]; exact hx
    · exact h5 q j
theorem zOK.putR {L : Nat} {xs : Nat → Int} {σ : zS} (hO : zOK (zB L xs) σ) {a k : Nat} (ha : 9 ≤ a) {x : Nat} : zOK (zB L xs) (σ.1, σ.2.1, σ.2.2.1, zupR σ.2.2.2.1 a k x, σ.2.2.2.2) := by
  obtain ⟨h1, h2, h3, h4, h5⟩ := hO
  refine ⟨h1, fun q hq => ⟨(h2 q hq).1, ?_, (h2 q hq).2.2⟩, h3, h4, h5⟩
  rw [← (h2 q hq).2.1]
  funext j
  show zupR _ _ _ _ q j = _
  unfold zupR
  rw [if_neg (by omega)]
theorem zOK.row {L : Nat} {xs : Nat → Int} {σ : zS} (hO : zOK (zB L xs) σ) {a : Nat} (ha : 9 ≤ a) {f : Nat → Int} (hx : ∀ j, zcn (σ.2.2.1 a).1 j (f j)) : zOK (zB L xs) (σ.1, σ.2.1, σ.2.2.1, σ.2.2.2.1, zrow σ.2.2.2.2 a f) := by
  obtain ⟨h1, h2, h3, h4, h5⟩ := hO
  refine ⟨h1, fun q hq => ⟨(h2 q hq).1, (h2 q hq).2.1, ?_⟩, h3, h4, fun q j => ?_⟩
  · rw [← (h2 q hq).2.2]
    funext j
    show zrow _ _ _ q j = _
    unfold zrow
    rw [if_neg (by omega)]
  · show zcn (σ.2.2.1 q).1 j (zrow σ.2.2.2.2 a f q j)
    unfold zrow
    split
    · next c => rw [c]; exact hx j
    · exact h5 q j
theorem zOK.new {L : Nat} {xs : Nat → Int} {σ : zS} (hO : zOK (zB L xs) σ) (h9 : 9 ≤ σ.1) {n m k : Nat} (hk : zkd k) (hm : m ≤ 100000) {f : Nat → Int} (hf : ∀ j, zcn k j (f j)) : zOK (zB L xs) (σ.1 + 1, n, zupS σ.2.2.1 σ.1 (k, m), zrow σ.2.2.2.1 σ.1 (fun _ => 0), zrow σ.2.2.2.2 σ.1 f) := by
  obtain ⟨h1, h2, h3, h4, h5⟩ := hO
  refine ⟨fun q hq => ?_, fun q hq => ⟨?_, ?_, ?_⟩, fun q q1 q2 => ?_, fun q => ?_, fun q j => ?_⟩
  · show zupS _ _ _ q = _
    unfold zupS
    have : σ.1 + 1 ≤ q := hq
    rw [if_neg (by omega)]
    exact h1 q (by omega)
  · show zupS _ _ _ q = _
    unfold zupS
    rw [if_neg (by omega)]
    exact (h2 q hq).1
  · rw [← (h2 q hq).2.1]
    funext j
    show zrow σ.2.2.2.1 σ.1 (fun _ => 0) q j = _
    unfold zrow
    rw [if_neg (by omega)]
  · rw [← (h2 q hq).2.2]
    funext j
    show zrow _ _ _ q j = _
    unfold zrow
    rw [if_neg (by omega)]
  · show zkd (zupS _ _ _ q).1
    unfold zupS
    have : q < σ.1 + 1 := q2
    split
    · exact hk
    · exact h3 q q1 (by omega)
  · show (zupS _ _ _ q).2 ≤ _
    unfold zupS
    split
    · exact hm
    · exact h4 q
  · show zcn (zupS _ _ _ q).1 j (zrow _ _ _ q j)
    unfold zupS zrow
    split
    · exact hf j
    · exact h5 q j
