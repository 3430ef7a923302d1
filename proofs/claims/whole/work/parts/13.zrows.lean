/-! rows for references that may be null, and for calls whose answer is known -/
theorem zdc_of {j k : Nat} {i : Instr} {len : Nat} (h : zdc j k i len = true) : decode (zm j).2.1 (zpc j k) = .ok (i, len) ∧ zpc j (k + 1) = zpc j k + len := by
  simp only [zdc, Bool.and_eq_true, decide_eq_true_eq] at h
  exact h
theorem znx_of {j k len : Nat} (h : znx j k len = true) : zpc j (k + 1) = zpc j k + len := of_decide_eq_true h
theorem ztg_of {j k : Nat} {off t : Int} (h : ztg j k off t = true) : (zpc j k : Int) + off = (zpc j t.toNat : Int) := of_decide_eq_true h
theorem zfin4 {n : Nat} (h : n < 4) : ((Fin.ofNat 4 n : Fin 4) : Nat) = n := Nat.mod_eq_of_lt h
theorem zfin2 {v : Int} (h : v = 0 ∨ v = 1) : Int64.ofNat ((Fin.ofNat 2 v.toNat : Fin 2) : Nat) = Int64.ofInt v := by
  rcases h with rfl | rfl <;> rfl
theorem ztgs_at {j k : Nat} : ∀ (l m : List Int), ztgs j k l m = true → ∀ (i : Nat) (t : Int), m[i]? = some t → ∃ off, l[i]? = some off ∧ ztg j k off t = true
  | [], [], _, i, t, h => by simp at h
  | a :: l, b :: m, h, i, t, hi => by
    simp only [ztgs, Bool.and_eq_true] at h
    cases i with
    | zero => cases hi; exact ⟨a, rfl, h.1⟩
    | succ i =>
      obtain ⟨off, h1, h2⟩ := ztgs_at l m h.2 i t (by simpa using hi)
      exact ⟨off, by simpa using h1, h2⟩
  | [], _ :: _, h, _, _, _ => by cases h
  | _ :: _, [], h, _, _, _ => by cases h
theorem zsw_at {x : Int} {d : Nat} {k : Nat → zO} {r : zV × zS} : ∀ (ts : List Int) (lo : Int), zsw x d k lo ts = some r → (∃ (i : Nat) (t : Int), ts[i]? = some t ∧ x = lo + i ∧ k t.toNat = some r) ∨ ((x < lo ∨ lo + (ts.length : Int) ≤ x) ∧ k d = some r)
  | [], lo, h => Or.inr ⟨by simp; omega, h⟩
  | t :: ts, lo, h => by
    unfold zsw at h
    split at h
    · next c => exact Or.inl ⟨0, t, rfl, by omega, h⟩
    · next c =>
      rcases zsw_at ts (lo + 1) h with ⟨i, t', h1, h2, h3⟩ | ⟨h1, h2⟩
      · exact Or.inl ⟨i + 1, t', by simpa using h1, by omega, h3⟩
      · exact Or.inr ⟨by simp only [List.length_cons]; omega, h2⟩
theorem zcw_sum {g : zG} : ∀ (l : List zV), ((l.map (zv g)).map fun v => v.category).sum = zcw l
  | [] => rfl
  | .inl x :: l => by show 1 + ((l.map (zv g)).map fun v => v.category).sum = 1 + zcw l; rw [zcw_sum l]
  | .inr (.inl x) :: l => by show 2 + ((l.map (zv g)).map fun v => v.category).sum = 2 + zcw l; rw [zcw_sum l]
  | .inr (.inr (.inl x)) :: l => by show (va_rf (zad g x)).category + ((l.map (zv g)).map fun v => v.category).sum = 1 + zcw l; rw [zcw_sum l, zrf_cat]
  | .inr (.inr (.inr x)) :: l => by show 1 + ((l.map (zv g)).map fun v => v.category).sum = 1 + zcw l; rw [zcw_sum l]
theorem zcw_le : ∀ (l : List zV), zcw l ≤ 2 * l.length
  | [] => Nat.le_refl _
  | .inl x :: l => by have := zcw_le l; show 1 + zcw l ≤ 2 * (l.length + 1); omega
  | .inr (.inl x) :: l => by have := zcw_le l; show 2 + zcw l ≤ 2 * (l.length + 1); omega
  | .inr (.inr (.inl x)) :: l => by have := zcw_le l; show 1 + zcw l ≤ 2 * (l.length + 1); omega
  | .inr (.inr (.inr x)) :: l => by have := zcw_le l; show 1 + zcw l ≤ 2 * (l.length + 1); omega
section ZR
variable {p : Program} {l : Launch} {e : Env} {R : Room} {s : State} {m : MethodId} {args : Array Value} {below : List Frame} {meth : Method} {c : Code} {H : Heap} {locs : List Loc} {cells slots : Nat} {Q : State → Prop}
variable {cc : ByteArray} {pc : Nat} {ls : Array Slot} {rest : List Value}
theorem zaload (hexec : p.tables.exec = Jvm.exec) (hb : c.code = cc) {i : Nat} {r : Option Nat} (hdg : decode cc pc = .ok (.aload i, 2)) (hl : ls[i]? = some (.val (va_rf r)))
    (k : W p l e R s m args below meth c H locs cells slots Q (F0 m (pc + 2) ls (va_rf r :: rest))) : W p l e R s m args below meth c H locs cells slots Q (F0 m pc ls rest) := by
  cases r with
  | none => exact lv_aloadN hexec hb hdg hl k
  | some a => exact lv_aload hexec hb hdg hl k
theorem zaload_n (hexec : p.tables.exec = Jvm.exec) (hb : c.code = cc) {k : Fin 4} {i : Nat} {r : Option Nat} (hdg : decode cc pc = .ok (.aload_n k, 1)) (hi : (k : Nat) = i) (hl : ls[i]? = some (.val (va_rf r)))
    (kk : W p l e R s m args below meth c H locs cells slots Q (F0 m (pc + 1) ls (va_rf r :: rest))) : W p l e R s m args below meth c H locs cells slots Q (F0 m pc ls rest) := by
  cases r with
  | none => exact lv_aload_nN hexec hb hdg hi hl kk
  | some a => exact lv_aload_n hexec hb hdg hi hl kk
theorem zastore (hexec : p.tables.exec = Jvm.exec) (hb : c.code = cc) {i nL : Nat} {r : Option Nat} {lv : List (Nat × Value)} (hdg : decode cc pc = .ok (.astore i, 2)) (h : lv_has ls nL lv) (hn : i < nL)
    (kk : ∀ ls' : Array Slot, lv_has ls' nL ((i, va_rf r) :: lv.filter (fun q => !(q.1 == i) && !(q.1 + 1 == i && q.2.category == 2))) → W p l e R s m args below meth c H locs cells slots Q (F0 m (pc + 2) ls' rest)) : W p l e R s m args below meth c H locs cells slots Q (F0 m pc ls (va_rf r :: rest)) := by
  cases r with
  | none => exact lv_astoreN hexec hb hdg h hn rfl kk
  | some a => exact lv_astore hexec hb hdg h hn rfl kk
theorem zastore_n (hexec : p.tables.exec = Jvm.exec) (hb : c.code = cc) {k : Fin 4} {i nL : Nat} {r : Option Nat} {lv : List (Nat × Value)} (hdg : decode cc pc = .ok (.astore_n k, 1)) (hi : (k : Nat) = i) (h : lv_has ls nL lv) (hn : i < nL)
    (kk : ∀ ls' : Array Slot, lv_has ls' nL ((i, va_rf r) :: lv.filter (fun q => !(q.1 == i) && !(q.1 + 1 == i && q.2.category == 2))) → W p l e R s m args below meth c H locs cells slots Q (F0 m (pc + 1) ls' rest)) : W p l e R s m args below meth c H locs cells slots Q (F0 m pc ls (va_rf r :: rest)) := by
  cases r with
  | none => exact lv_astore_nN hexec hb hdg hi h hn rfl kk
  | some a => exact lv_astore_n hexec hb hdg hi h hn rfl kk
/-- what is returned -/
def zret (g : zG) : zV → Option Value
  | .inr (.inr (.inr _)) => none
  | v => some (zv g v)
def zrs (g : zG) : zV → List Value
  | .inr (.inr (.inr _)) => []
  | v => [zv g v]
theorem zret_list (g : zG) (v : zV) : (zret g v).toList = zrs g v := by
  rcases v with x | x | x | x <;> rfl
def zQ (g : zG) (v : zV) (σ : zS) : Array Value → State → Outcome → State → Prop := fun _ st o t => o = .returned (zret g v) ∧ zHP g σ t.heap ∧ va_F (zAr g) st t
theorem zcont {g : zG} {v : zV} {σ : zS} {a : Array Value} {st0 : List Value} {mc ms : Nat} (hr : va_Run p l e R s m args below meth c H locs cells slots mc ms (F0 m pc ls st0) rest (zQ g v σ a) (zAr g)) (hS : va_S (zAr g) s.heap H locs)
    (kk : ∀ (H1 : Heap) (locs1 : List Loc), zHP g σ H1 → va_S (zAr g) s.heap H1 locs1 → W p l e R s m args below meth c H1 locs1 (cells + mc) (slots + ms) Q (F0 m (pc + 3) ls (zrs g v ++ rest))) : W p l e R s m args below meth c H locs cells slots Q (F0 m pc ls st0) := by
  intro T hT X
  obtain ⟨v', st₀, t, T', L, h0, X', hL, e1, e2, ⟨hv, hp, hz, hk⟩, st⟩ := hr T hT X
  cases hv
  rw [h0] at hz hk
  obtain ⟨t2, a1, b1⟩ := kk T'.heap (locs ++ L) (by rw [e1]; exact hp)
    ⟨Nat.le_trans hS.1 (by rw [e1]; exact hz), fun q h1 h2 => by rw [e1, hk q (Nat.lt_of_lt_of_le h1 hS.1) h2]; exact hS.2.1 q h1 h2, fun q hq => by
      rcases List.mem_append.mp hq with h | h
      · exact hS.2.2 q h
      · exact hL q h⟩ T' rfl X'
  refine ⟨t2, st t2 ?_, b1⟩
  rw [zret_list]
  exact a1
end ZR
/-- what the callee's start is told -/
def zPre (g : zG) (L : Nat) (xs : Nat → Int) (σ : zS) (U : State) : Prop := zHP g σ U.heap ∧ va_K g.1 vwCl (ztys g) U ∧ zRO g L xs U U.heap
theorem zPre.blind {g : zG} {L : Nat} {xs : Nat → Int} {σ : zS} {as : List Value} : FrameBlind (va_Pc as (zPre g L xs σ)) := by
  intro a U f mk ⟨h1, h2, h3, h4⟩
  exact ⟨h1, h2, va_K.moved (u := U) (U := U.calling f mk a) (Vm.Alike.refl U.vm) h3, h4.same (u := U) (U := U.calling f mk a) rfl⟩
theorem zPre.of {g : zG} {L : Nat} {xs : Nat → Int} {σ : zS} {s : State} {H : Heap} {locs : List Loc} (hH : zHP g σ H) (hK : va_K g.1 vwCl (ztys g) s) (hR : zRO g L xs s s.heap) (hS : va_S (zAr g) s.heap H locs) {U : State} (hU : U.heap = H) (hW : s.WarmedH U.vm) : zPre g L xs σ U := by
  refine ⟨by rw [hU]; exact hH, hK.moved hW.alike, ?_⟩
  rw [hU]
  exact (hR.kept hS.1 hS.2.1).warm hW
/-- a method's words; the room for d calls below it -/
def zws (j : Nat) : List Cond := .code (zy j) (zm j).2.1 (zPP.2.1 j) (zm j).2.2.1 :: zGw
def zrm (d mc ms : Nat) : Room := { frames := d + 1, cells := mc, slots := ms, locals := 100 * (d + 1) }
theorem zgood {w : Cond} (h : w ∈ zGw) : goodWord w = true := (List.mem_filter.mp h).2
theorem zws_ok {s : State} {args : Array Value} (hts : ∀ w ∈ zGw, w.before args s = true) {i : Nat} (hm : zmok i = true) : (∀ w ∈ zws i, ∀ (a' : Array Value) (U : State), s.WarmedH U.vm → w.before a' U = true) ∧ Cond.code (zy i) (zm i).2.1 (zPP.2.1 i) (zm i).2.2.1 ∈ zGw := by
  have hc : Cond.code (zy i) (zm i).2.1 (zPP.2.1 i) (zm i).2.2.1 ∈ zGw := by
    simp only [zmok, Bool.and_eq_true] at hm
    exact zhas_good hm.1.1.1.1.1.1.1.1.2 hm.1.1.1.1.1.1.1.1.1
  refine ⟨fun w hw a' U hW => ?_, hc⟩
  have hw' : w ∈ zGw := by
    rcases List.mem_cons.mp hw with rfl | h
    · exact hc
    · exact h
  exact word_at hW (good_of_word (zgood hw')) (hts w hw')
