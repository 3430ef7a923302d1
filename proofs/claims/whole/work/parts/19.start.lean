/-! THE CLAIM OUT OF ONE WALK OF THE LAW'S BODY. Your part is whole_start (and what it stands on); all else here is the same for every law, but numbers. -/
def R_law : String := "TreesLendRingsLaw"
def lw_P (b : Addr) (xs : List Int32) (args : Array Value) (s : State) : Prop := args = #[.ref b] ∧ s.IntsAt b xs ∧ xs.length ≤ 3072 ∧ (Jvm.Cond.and given_1 narrow_1).before args s = true
def lw_Q (_ : Array Value) (s : State) (o : Outcome) (t : State) : Prop := o = .returned (some (.int 1)) ∧ Framed s o t [] 600000 7302250
def lw_Z (below : List Frame) (a : Array Value) (s : State) : State → Prop := fun t => ∃ o, t.status = .running ∧ Ended t below o ∧ lw_Q a s o t
/-- the law's own end, with 1 on the stack, nothing written that was there before, its room as the claim has it -/
theorem lw_ret {p : Program} {l : Launch} {e : Env} {s : State} {m : MethodId} {below : List Frame} {meth : Method} {c : Code} {b : Nat} (hx : p.tables.exec = Jvm.exec) (hb : c.code = code) (hr : meth.sig.returnType = ret) (hlocks : meth.locks = false) {pc : Nat} {H : Heap} {ls : Array Slot} (hdg : decode code pc = .ok (.ireturn, 1)) : W p l e room_1 s m #[Value.ref b] below meth c H [] 600000 7302250 (lw_Z below #[Value.ref b] s) (F0 m pc ls [.int 1]) := by
  intro T hT X
  obtain ⟨fs, hret, hrun, hended, hW, hframe⟩ := X.leave (v := some (.int 1)) (hlocks := hlocks) (fun h => by rw [hr] at h; cases h)
  have hmeth' : T.vm.method? m = some meth := X.method'
  refine ⟨T.setFrames fs, ?_, .returned (some (.int 1)), hrun, hended, rfl, ⟨_, rfl⟩, hW, hframe⟩
  jvm_step X.here [X.here.top, hx, hb, hdg, hmeth', hr, ret, narrow_b1]
  (try refine ⟨rfl, ?_⟩); (try refine ⟨rfl, ?_⟩)
  first | (intro acts; rw [hret _ acts rfl rfl rfl]) | rw [hret _ _ rfl rfl rfl]
  exact Steps.refl _
/-- what holds at the law's entry: the machine, the code, the tables' words (any of lw_tbl by 'hts w (by decide +kernel)'), the script of L ints xs at the cell b, what the Statement gives of the start (any of its parts by flat_of_before) -/
def lw_At (p : Program) (s : State) (m : MethodId) (meth : Method) (c : Code) (b L : Nat) (xs : Nat → Int32) : Prop :=
  p.tables.exec = Jvm.exec ∧ c.code = code ∧ meth.sig.returnType = ret ∧ c.maxLocals = 4 ∧ s.vm.findClass R_law = some m.cls ∧ (∀ w ∈ lw_tbl, w.before #[Value.ref b] s = true) ∧ va_X b L xs s s.heap ∧ b < s.heap.size ∧ meth.locks = false ∧ (Jvm.Cond.and given_1 narrow_1).before #[Value.ref b] s = true
/-! THE LAW'S ENTRY -/
def zinP : List Nat := [298, 282, 322, 342, 145, 180, 679, 137, 129, 1225]
theorem zin_ok : zall2 (fun p w => goodWord w && zhas p w) zinP (vwCl.map fun q => Cond.instantiable q.1 q.2.2) = true := by decide +kernel
theorem zK0 {s : State} {args : Array Value} (hts : ∀ w ∈ zGw, w.before args s = true) : ∃ D : va_G, ∀ (c : Nat) (q : vw_C), vwCl[c]? = some q → u_Kn s q.1 q.2.1 q.2.2 (D.1 c) (D.2 c) := by
  have h0 : ∀ c : Nat, ∃ x : ClassId × (Nat → Nat), ∀ q : vw_C, vwCl[c]? = some q → u_Kn s q.1 q.2.1 q.2.2 x.1 x.2 := by
    intro c
    cases hc : vwCl[c]? with
    | none => exact ⟨(0, fun _ => 0), fun q h => by cases h⟩
    | some q =>
      obtain ⟨cC, iS, h⟩ := u_known hts (zfw hc) (hts _ (zall2_in _ _ zin_ok _ (List.mem_map.mpr ⟨q, List.mem_of_getElem? hc, rfl⟩)))
      exact ⟨(cC, iS), fun q' h' => by cases h'; exact h⟩
  obtain ⟨f, hf⟩ := Classical.axiomOfChoice h0
  exact ⟨(fun c => (f c).1, fun c => (f c).2), fun c q h => hf c q h⟩
theorem zarO {C : String} {s : State} {args : Array Value} (h : (Cond.arrayOver (.object C)).before args s = true) : ∃ cA : ClassId, ArrOfT s cA (.object C) ∧ va_RA s cA (.object C) := by
  obtain ⟨comp, c, k, h1, h2, h3, h4, h5⟩ := Cond.arrayOver_spec h
  exact ⟨c, fun N z => ⟨(fun k h => by cases h), k, h3, comp, h4⟩, k, comp, h3, h4, h1, h5⟩
theorem zar0 {s : State} {args : Array Value} (hts : ∀ w ∈ lw_tbl, w.before args s = true) : ∃ ac : Nat → ClassId, ∀ (k : Nat) (q : ClassId × FieldType), [(ac 20, FieldType.int), (ac 21, .char), (ac 22, .long), (ac 23, .boolean), (ac 24, .object "TreesLendRings$Rings"), (ac 25, .object "TreesLendRings$Text")][k]? = some q → ArrOfT s q.1 q.2 ∧ va_RA s q.1 q.2 := by
  obtain ⟨c0, k0, m0, a1, a2, a3⟩ := Cond.arrayClass_spec (type := .int) (hts _ (zhas_in (p := 178) (by decide +kernel)))
  obtain ⟨c1, k1, m1, b1, b2, b3⟩ := Cond.arrayClass_spec (type := .char) (hts _ (zhas_in (p := 429) (by decide +kernel)))
  obtain ⟨c2, k2, m2, d1, d2, d3⟩ := Cond.arrayClass_spec (type := .long) (hts _ (zhas_in (p := 338) (by decide +kernel)))
  obtain ⟨c3, k3, m3, e1, e2, e3⟩ := Cond.arrayClass_spec (type := .boolean) (hts _ (zhas_in (p := 1324) (by decide +kernel)))
  obtain ⟨c4, f4⟩ := zarO (C := "TreesLendRings$Rings") (hts _ (zhas_in (p := 186) (by decide +kernel)))
  obtain ⟨c5, f5⟩ := zarO (C := "TreesLendRings$Text") (hts _ (zhas_in (p := 143) (by decide +kernel)))
  refine ⟨fun k => match k with
    | 20 => c0
    | 21 => c1
    | 22 => c2
    | 23 => c3
    | 24 => c4
    | _ => c5, fun k q h => ?_⟩
  match k, h with
  | 0, h => (cases h; exact ⟨fun N z => ⟨(fun k h => by cases h), k0, a2, m0, a3⟩, a1⟩)
  | 1, h => (cases h; exact ⟨fun N z => ⟨(fun k h => by cases h), k1, b2, m1, b3⟩, b1⟩)
  | 2, h => (cases h; exact ⟨fun N z => ⟨(fun k h => by cases h), k2, d2, m2, d3⟩, d1⟩)
  | 3, h => (cases h; exact ⟨fun N z => ⟨(fun k h => by cases h), k3, e2, m3, e3⟩, e1⟩)
  | 4, h => (cases h; exact f4)
  | 5, h => (cases h; exact f5)
  | n + 6, h => simp at h
def ztm (i : Nat) : Term := .string "TreesLendRings$Sign" (if i = 0 then 9 else 17)
def zln : List Nat := [189, 12]
def zelE (i j : Nat) : Cond := .eq (.elem (.field (ztm i) "java/lang/String" "value" "[B") (.int (Int32.ofNat j))) (.int ((zbyt.getD i []).getD j 0))
def zelC (p n i o : Nat) : Bool := decide (((flatC (Jvm.Cond.and given_1 narrow_1)).drop p).take n = (List.range' o n).map (zelE i))
theorem zelC_in {p n i o : Nat} (h : zelC p n i o = true) {j : Nat} (h1 : o ≤ j) (h2 : j < o + n) : zelE i j ∈ flatC (Jvm.Cond.and given_1 narrow_1) := by
  have h := of_decide_eq_true h
  refine List.mem_of_mem_drop (i := p) (List.mem_of_mem_take (i := n) ?_)
  rw [h]
  exact List.mem_map.mpr ⟨j, List.mem_range'_1.mpr ⟨h1, h2⟩, rfl⟩
theorem zelC0 : zelC 45 48 0 0 = true := by decide +kernel
theorem zelC1 : zelC 93 48 0 48 = true := by decide +kernel
theorem zelC2 : zelC 141 48 0 96 = true := by decide +kernel
theorem zelC3 : zelC 189 45 0 144 = true := by decide +kernel
theorem zelC4 : zelC 238 12 1 0 = true := by decide +kernel
theorem zstE (i : Nat) (hi : i < 2) (j : Nat) (hj : j < zln.getD i 0) : zelE i j ∈ flatC (Jvm.Cond.and given_1 narrow_1) := by
  rcases (show i = 0 ∨ i = 1 by omega) with rfl | rfl
  · have hj : j < 189 := hj
    rcases (show j < 48 ∨ (48 ≤ j ∧ j < 96) ∨ (96 ≤ j ∧ j < 144) ∨ 144 ≤ j by omega) with h | h | h | h
    · exact zelC_in zelC0 (Nat.zero_le _) (by omega)
    · exact zelC_in zelC1 h.1 (by omega)
    · exact zelC_in zelC2 h.1 (by omega)
    · exact zelC_in zelC3 h (by omega)
  · have hj : j < 12 := hj
    exact zelC_in zelC4 (Nat.zero_le _) (by omega)
theorem zstH : ∀ i, i < 2 → Cond.exactly (ztm i) "java/lang/String" ∈ flatC (Jvm.Cond.and given_1 narrow_1) ∧ Cond.eq (.field (ztm i) "java/lang/String" "coder" "B") (.int 0) ∈ flatC (Jvm.Cond.and given_1 narrow_1) ∧ Cond.arrayOf (.field (ztm i) "java/lang/String" "value" "[B") .byte ∈ flatC (Jvm.Cond.and given_1 narrow_1) ∧ Cond.eq (.length (.field (ztm i) "java/lang/String" "value" "[B")) (.int (Int32.ofNat (zln.getD i 0))) ∈ flatC (Jvm.Cond.and given_1 narrow_1) ∧ zln.getD i 0 < 1000 := by decide +kernel
def ztA (i : Nat) : Term := .static "TreesLendRings$Judge" (if i = 0 then "LEAST" else "MOST") "[I"
def zvA (i : Nat) : List Int := if i = 0 then [-99, -9, 0] else [99, 99, 10]
theorem zsaH : ∀ i, i < 2 → Cond.arrayOf (ztA i) .int ∈ flatC (Jvm.Cond.and given_1 narrow_1) ∧ Cond.eq (.length (ztA i)) (.int (Int32.ofNat 3)) ∈ flatC (Jvm.Cond.and given_1 narrow_1) ∧ ∀ j, j < 3 → Cond.eq (.elem (ztA i) (.int (Int32.ofNat j))) (.int (Int32.ofInt (znth 0 (zvA i) j))) ∈ flatC (Jvm.Cond.and given_1 narrow_1) := by decide +kernel
theorem zsaL (i : Nat) (hi : i < 2) {s : State} {args : Array Value} (hgv : (Jvm.Cond.and given_1 narrow_1).before args s = true) : ∃ t : Nat, (ztA i).eval args s none [] s = some (.ref t) ∧ va_T .int t 3 (fun j => .int (Int32.ofInt (znth 0 (zvA i) j))) (fun q => s.heap.size ≤ q) s s.heap := by
  obtain ⟨h1, h2, h3⟩ := zsaH i hi
  have hn := flat_of_before _ hgv
  exact va_Tof (by decide) (hn _ h1) (va_eqt (hn _ h2)) (fun j hj => va_eqt (hn _ (h3 j hj))) (fun a h => Nat.not_le.mpr h)
theorem zRO0 {s : State} {b L : Nat} {xs : Nat → Int32} (hts : ∀ w ∈ lw_tbl, w.before #[Value.ref b] s = true) (hX : va_X b L xs s s.heap) (hbl : b < s.heap.size) (hgv : (Jvm.Cond.and given_1 narrow_1).before #[Value.ref b] s = true) :
    ∃ fx : Nat → Option Nat, fx 1 = some b ∧ ∀ (D : va_G) (ac : Nat → ClassId), zRO (D, ac, s.heap.size, fx) L (fun j => (xs j).toInt) s s.heap := by
  have hn := flat_of_before _ hgv
  have hA : ∀ a : Nat, a < s.heap.size → ¬ (fun q : Nat => s.heap.size ≤ q) a := fun a h => Nat.not_le.mpr h
  obtain ⟨t2, e2, hT2⟩ := zsaL 0 (by decide) hgv
  obtain ⟨t3, e3, hT3⟩ := zsaL 1 (by decide) hgv
  have hZ2 : va_Z "TreesLendRings$Judge" "LEAST" "[I" (.ref t2) (fun q => s.heap.size ≤ q) s s.heap := va_Zof (hts _ (zhas_in (p := 845) (by decide +kernel))) (hts _ (zhas_in (p := 112) (by decide +kernel))) e2 hA
  have hZ3 : va_Z "TreesLendRings$Judge" "MOST" "[I" (.ref t3) (fun q => s.heap.size ≤ q) s s.heap := va_Zof (hts _ (zhas_in (p := 847) (by decide +kernel))) (hts _ (zhas_in (p := 112) (by decide +kernel))) e3 hA
  have hZ4 : va_Z "java/lang/String" "COMPACT_STRINGS" "Z" (.int 1) (fun q => s.heap.size ≤ q) s s.heap := va_Zof (hts _ (zhas_in (p := 498) (by decide +kernel))) (hts _ (zhas_in (p := 119) (by decide +kernel))) (va_eqt (hn _ (by decide +kernel))) hA
  obtain ⟨o, hZ5⟩ : ∃ o : Option Nat, va_Z "jdk/internal/util/Preconditions" "SIOOBE_FORMATTER" "Ljava/util/function/BiFunction;" (va_rf o) (fun q => s.heap.size ≤ q) s s.heap := by
    rcases va_Zqof (C := "jdk/internal/util/Preconditions") (n := "SIOOBE_FORMATTER") (d := "Ljava/util/function/BiFunction;") (A := fun q : Nat => s.heap.size ≤ q) (hts _ (zhas_in (p := 506) (by decide +kernel))) (hts _ (zhas_in (p := 121) (by decide +kernel))) (hn _ (by decide +kernel)) hA with h | ⟨t, h⟩
    · exact ⟨none, h⟩
    · exact ⟨some t, h⟩
  obtain ⟨adK, adV, hS, hE⟩ := vk_Sof (args := #[Value.ref b]) (s := s) (N := 2) (tm := ztm) (len := zln) (byt := zbyt) (A := fun q : Nat => s.heap.size ≤ q) (fun i hi => Nat.lt_trans (zstH i hi).2.2.2.2 (by decide)) (fun i hi => hn _ (zstH i hi).1) (fun i hi => hn _ (zstH i hi).2.1) (fun i hi => hn _ (zstH i hi).2.2.1) (fun i hi => hn _ (zstH i hi).2.2.2.1) (fun i hi j hj => hn _ (zstE i hi j hj)) (by
    intro i j hi hj hij
    rcases (show (i = 0 ∧ j = 1) ∨ (i = 1 ∧ j = 0) by omega) with ⟨rfl, rfl⟩ | ⟨rfl, rfl⟩
    · exact Or.inl (hn _ (by decide +kernel))
    · exact Or.inr (hn _ (by decide +kernel))) hA
  have hR0 : vk_R "TreesLendRings$Sign" 9 zs0 (adK 0) s := vk_R.of (hts _ (zhas_in (p := 488) (by decide +kernel))) (hE 0 (by decide))
  have hR1 : vk_R "TreesLendRings$Sign" 17 zs1 (adK 1) s := vk_R.of (hts _ (zhas_in (p := 539) (by decide +kernel))) (hE 1 (by decide))
  refine ⟨fun q => match q with
    | 1 => some b
    | 2 => some t2
    | 3 => some t3
    | 4 => some (adK 0)
    | 5 => some (adK 1)
    | 6 => some (adV 0)
    | 7 => some (adV 1)
    | 8 => o
    | _ => none, rfl, fun D ac => ?_⟩
  refine ⟨rfl, ⟨b, rfl, hbl, hbl, ?_⟩, ⟨t2, rfl, hT2, hZ2⟩, ⟨t3, rfl, hT3, hZ3⟩, ⟨adK, adV, rfl, rfl, rfl, rfl, hS, hR0, hR1⟩, hZ4, hZ5, ⟨va_Nw.of rfl (hts _ (zhas_in (p := 742) (by decide +kernel))), va_Nw.of rfl (hts _ (zhas_in (p := 779) (by decide +kernel))), va_Nw.of rfl (hts _ (zhas_in (p := 869) (by decide +kernel)))⟩, va_Nw.of rfl (hts _ (zhas_in (p := 688) (by decide +kernel))), va_AO.of (hts _ (zhas_in (p := 186) (by decide +kernel))), va_AO.of (hts _ (zhas_in (p := 143) (by decide +kernel)))⟩
  rw [show (fun j => Int32.ofInt (xs j).toInt) = xs from funext fun j => Int32.ofInt_toInt (xs j)]
  exact hX
theorem z32_nth {l : List Int} (h : ∀ x ∈ l, z32 x) : ∀ j, z32 (znth 0 l j) := by
  induction l with
  | nil => intro j; show z32 0; exact ⟨by decide, by decide⟩
  | cons a l ih =>
    intro j
    cases j with
    | zero => exact h _ List.mem_cons_self
    | succ j => exact ih (fun x hx => h x (List.mem_cons_of_mem _ hx)) j
theorem z32_all {l : List Int} (h : (l.all fun x => decide (-2147483648 ≤ x) && decide (x < 2147483648)) = true) : ∀ x ∈ l, z32 x := fun x hx => by
  have := List.all_eq_true.mp h x hx
  simp only [Bool.and_eq_true, decide_eq_true_eq] at this
  exact this
theorem zIv0 {L : Nat} {xs : Nat → Int} (hL : L ≤ 3072) (hx : ∀ j, z32 (xs j)) : zIv L xs (zB L xs) := by
  refine ⟨Nat.le_refl _, fun q hq => ?_, fun q hq => ⟨rfl, rfl, rfl⟩, fun q h1 h2 => ?_, fun q => ?_, fun q j => ?_⟩
  · have h9 : 9 ≤ q := hq
    match q, h9 with
    | q + 9, _ => rfl
  · exact absurd h2 (Nat.not_lt.mpr h1)
  · show (match q with
      | 1 => (30, L)
      | 2 => (31, 3)
      | 3 => (31, 3)
      | 4 => (32, 0)
      | 5 => (32, 0)
      | 6 => (33, 189)
      | 7 => (33, 12)
      | _ => (0, 0) : Nat × Nat).2 ≤ 100000
    split <;> first | (exact Nat.le_trans hL (by decide)) | decide
  · match q with
    | 1 => exact zcn_32 rfl (hx j)
    | 2 => exact zcn_32 rfl (z32_nth (z32_all (by decide)) j)
    | 3 => exact zcn_32 rfl (z32_nth (z32_all (by decide)) j)
    | 6 => exact zcn_32 rfl (z32_nth (z32_all (by decide +kernel)) j)
    | 7 => exact zcn_32 rfl (z32_nth (z32_all (by decide +kernel)) j)
    | 0 => exact zcn_0 _ j
    | 4 => exact zcn_0 _ j
    | 5 => exact zcn_0 _ j
    | 8 => exact zcn_0 _ j
    | q + 9 => exact zcn_0 _ j
theorem zdec0 : zPP.2.1 0 = 4 := by decide +kernel
/-- the law's walk, out of a run of the small machine -/
theorem zstart {p : Program} {e : Env} {s : State} {m : MethodId} {below : List Frame} {meth : Method} {c : Code} (l : Launch) (hck : ∀ j, zcm j) (h00 : ∀ j, zpc j 0 = 0) (hmo : ∀ {k : Nat}, 0 < k → k < 329 → zmok k = true) {b L : Nat} {xs : Nat → Int32} (hL : L ≤ 3072) (C0 : lw_At p s m meth c b L xs) {n d : Nat} (hd : d ≤ 800) {σ' : zS}
    (hrun : zrun zPP n d 0 0 (zini zPP 0 [zA 1]) [] (zB L fun j => (xs j).toInt) = some (zI 1, σ')) (hcl : σ'.1 ≤ 600009) (hsl : σ'.2.1 ≤ 7302250) :
    W p l e room_1 s m #[Value.ref b] below meth c s.heap [] 0 0 (lw_Z below #[Value.ref b] s) (entryFrame m ([Value.ref b] : List Value).toArray 4) := by
  obtain ⟨hx, hb, hr, hml, hown, hts, hX, hbl, hlocks, hgv⟩ := id C0
  have htg : ∀ w ∈ zGw, w.before #[Value.ref b] s = true := fun w hw => hts w (List.mem_filter.mp hw).1
  obtain ⟨D, hD⟩ := zK0 htg
  obtain ⟨ac, hac⟩ := zar0 hts
  obtain ⟨fx, hf1, hRO⟩ := zRO0 hts hX hbl hgv
  have hg : ([zA 1].map (zv (D, ac, s.heap.size, fx))) = [Value.ref b] := by
    show [va_rf (fx 1)] = _
    rw [hf1]
    rfl
  have hI : zIv L (fun j => (xs j).toInt) (zB L fun j => (xs j).toInt) := zIv0 hL (fun j => z32_toInt (xs j))
  have hgrow := zrun_grow n d 0 0 _ [] _ _ hrun
  have hent := zentry (P := zPP) (g := (D, ac, s.heap.size, fx)) (j := 0) (as := [zA 1]) (by rw [zdec0]; exact Nat.le_of_ble_eq_true rfl)
  rw [hg, zdec0] at hent
  rw [lg_entry_eq]
  have K := zsim (l := l) (g := (D, ac, s.heap.size, fx)) (L := L) (xs := fun j => (xs j).toInt) hck h00 hmo n d 0 0 _ [] _ _ _ hrun p e s m #[Value.ref b] below meth c room_1 (lw_Z below #[Value.ref b] s) 9 0 s.heap [] _
    ⟨hx, hb, by rw [hml, zdec0], hown, htg, fun z => absurd z (by decide +kernel), ⟨hD, hac⟩, hRO D ac⟩ (by show d + 1 ≤ 2048; omega) (by show 100 * (d + 1) ≤ 84000; omega) (by show σ'.1 - 9 ≤ 600000; omega) (by show σ'.2.1 - 0 ≤ 7302250; omega)
    (fun pc H locs lsA g1 g2 g3 => ?_)
    ⟨⟨Nat.le_refl _, (Nat.add_zero _).symm, fun q q1 q2 => absurd q2 (Nat.not_lt.mpr q1)⟩, hI, va_S.rf, by rw [zdec0]; exact hent, zpad_cs (zexp_cs ⟨trivial, trivial⟩), trivial⟩ (Nat.le_refl _) (Nat.le_refl _)
  · rw [h00] at K
    exact K
  · rcases g3 with ⟨x, ty, hv, hdg, -, -⟩ | g3
    · refine va_forget (fun q hq => g2.2.2 q hq) ?_
      refine W.widen (k := 600000) (n := 7302250) (by omega) (by omega) ?_
      exact lw_ret hx hb hr hlocks hdg
    · rcases g3 with ⟨x, hv, -⟩ | ⟨x, hv, -⟩ | ⟨hv, -⟩ <;> cases hv
