/-! more rows over the small machine's memory -/
theorem zfl_of {j idx c k : Nat} (h : zfl j idx c k = true) : c < 10 ∧ k < znf c ∧ Cond.fieldLink (zcl j) idx (zFl c k).1 (zFl c k).2.1 (zFl c k).2.2.1 ∈ zGw ∧ ∃ q, vwCl[c]? = some q ∧ q.2.2 = znf c := by
  simp only [zfl, Bool.and_eq_true, decide_eq_true_eq] at h
  obtain ⟨⟨h1, h2⟩, h3⟩ := h
  have hl : c < vwCl.length := h1
  obtain ⟨ty, -, -, e⟩ := zty (List.getElem?_eq_getElem hl)
  exact ⟨h1, h2, zwd_in h3, vwCl[c], List.getElem?_eq_getElem hl, e⟩
theorem zobj {g : zG} {L : Nat} {xs : Nat → Int} {σ : zS} {H : Heap} {a ci : Nat} (hH : zHP g σ H) (hO : zOK (zB L xs) σ) (cc : (σ.2.2.1 a).1 = ci + 1) (h10 : ci < 10) : va_at g.1 vwCl (g.2.2.1 + (a - 9), .inr (ci, (List.range (znf ci)).map fun k => zv g (zrd (zft ci k) (σ.2.2.2.1 a k) (σ.2.2.2.2 a k)))) H ∧ (9 ≤ a ∧ a < σ.1) ∧ zv g (zA a) = .ref (g.2.2.1 + (a - 9)) := by
  obtain ⟨e1, hat⟩ := hH.at hO (a := a) (by omega) (by omega)
  rw [zent_obj cc h10] at hat
  exact ⟨hat, hO.in (by omega) (by omega), by show va_rf (zad g a) = _; rw [e1]; rfl⟩
theorem zarr {g : zG} {L : Nat} {xs : Nat → Int} {σ : zS} {H : Heap} {a : Nat} (hH : zHP g σ H) (hO : zOK (zB L xs) σ) (cc : 20 ≤ (σ.2.2.1 a).1 ∧ (σ.2.2.1 a).1 < 30) : va_at g.1 vwCl (g.2.2.1 + (a - 9), zent g σ a) H ∧ (9 ≤ a ∧ a < σ.1) ∧ zv g (zA a) = .ref (g.2.2.1 + (a - 9)) := by
  obtain ⟨e1, hat⟩ := hH.at hO (a := a) (by omega) (by omega)
  exact ⟨hat, hO.in (by omega) (by omega), by show va_rf (zad g a) = _; rw [e1]; rfl⟩
theorem zB_shape {L : Nat} {xs : Nat → Int} {σ : zS} (hO : zOK (zB L xs) σ) {a : Nat} (h : 30 ≤ (σ.2.2.1 a).1) : a < 9 := by
  apply Nat.lt_of_not_le
  intro h9
  by_cases h1 : a < σ.1
  · have := hO.2.2.1 a h9 h1
    unfold zkd at this
    omega
  · rw [hO.1 a (by omega)] at h
    simp at h
theorem zB_kind {L : Nat} {xs : Nat → Int} {σ : zS} (hO : zOK (zB L xs) σ) {a : Nat} (h : 30 ≤ (σ.2.2.1 a).1) : ((σ.2.2.1 a).1 = 30 ∧ a = 1) ∨ ((σ.2.2.1 a).1 = 31 ∧ (a = 2 ∨ a = 3)) ∨ ((σ.2.2.1 a).1 = 32 ∧ (a = 4 ∨ a = 5)) ∨ ((σ.2.2.1 a).1 = 33 ∧ (a = 6 ∨ a = 7)) := by
  have h9 := zB_shape hO h
  have e := (hO.2.1 a h9).1
  rw [e] at h ⊢
  rcases (show a = 0 ∨ a = 1 ∨ a = 2 ∨ a = 3 ∨ a = 4 ∨ a = 5 ∨ a = 6 ∨ a = 7 ∨ a = 8 by omega) with rfl | rfl | rfl | rfl | rfl | rfl | rfl | rfl | rfl <;> simp [zB] at h ⊢
theorem zstr_facts {g : zG} {L : Nat} {xs : Nat → Int} {s : State} {σ : zS} (hR : zRO g L xs s s.heap) (hO : zOK (zB L xs) σ) {a : Nat} (h : (σ.2.2.1 a).1 = 32) : ∃ k, zad g a = some k ∧ va_OF "java/lang/String" "value" "[B" (va_rf (zad g (σ.2.2.2.1 a 0))) k (zAr g) s s.heap ∧ va_OF "java/lang/String" "coder" "B" (.int (Int32.ofInt (σ.2.2.2.2 a 1))) k (zAr g) s s.heap := by
  obtain ⟨-, -, -, -, ⟨adK, adV, k1, k2, k3, k4, k5, -⟩, -⟩ := hR
  have h45 : a = 4 ∨ a = 5 := by
    rcases zB_kind hO (a := a) (by omega) with ⟨h1, -⟩ | ⟨h1, -⟩ | ⟨-, h1⟩ | ⟨h1, -⟩
    · omega
    · omega
    · exact h1
    · omega
  rcases h45 with rfl | rfl
  · obtain ⟨-, e2, e3⟩ := hO.2.1 4 (by decide)
    rw [e2, e3]
    refine ⟨adK 0, by unfold zad; rw [if_pos (by decide)]; exact k1, ?_, (k5.1 0 (by decide)).2.1⟩
    have e : va_rf (zad g ((zB L xs).2.2.2.1 4 0)) = .ref (adV 0) := by
      show va_rf (zad g 6) = _
      unfold zad; rw [if_pos (by decide), k3]; rfl
    rw [e]
    exact (k5.1 0 (by decide)).2.2.1
  · obtain ⟨-, e2, e3⟩ := hO.2.1 5 (by decide)
    rw [e2, e3]
    refine ⟨adK 1, by unfold zad; rw [if_pos (by decide)]; exact k2, ?_, (k5.1 1 (by decide)).2.1⟩
    have e : va_rf (zad g ((zB L xs).2.2.2.1 5 0)) = .ref (adV 1) := by
      show va_rf (zad g 7) = _
      unfold zad; rw [if_pos (by decide), k4]; rfl
    rw [e]
    exact (k5.1 1 (by decide)).2.2.1
theorem zmap_get (f : Int → Int32) (h0 : f 0 = 0) : ∀ (l : List Int) (j : Nat), (l.map f).getD j 0 = f (znth 0 l j)
  | [], j => by simp [znth, h0]
  | a :: l, 0 => rfl
  | a :: l, j + 1 => zmap_get f h0 l j
theorem z_maxA {x y : Int} (hx : z32 x) (hy : z32 y) : (if Int32.ofInt x < Int32.ofInt y then Int32.ofInt y else Int32.ofInt x) = Int32.ofInt (max x y) := by
  by_cases c : x < y
  · rw [if_pos ((z_lt hx hy).mpr c)]; congr 1; omega
  · rw [if_neg (fun w => c ((z_lt hx hy).mp w))]; congr 1; omega
theorem z_minA {x y : Int} (hx : z32 x) (hy : z32 y) : (if Int32.ofInt y < Int32.ofInt x then Int32.ofInt y else Int32.ofInt x) = Int32.ofInt (min x y) := by
  by_cases c : y < x
  · rw [if_pos ((z_lt hy hx).mpr c)]; congr 1; omega
  · rw [if_neg (fun w => c ((z_lt hy hx).mp w))]; congr 1; omega
theorem z_ne0 {x : Int} (hx : z32 x) : ¬ Int32.ofInt x = 0 ↔ ¬ x = 0 := not_congr (z_eq0 hx)
theorem z_ge0 {x : Int} (hx : z32 x) : 0 ≤ Int32.ofInt x ↔ ¬ x < 0 := by
  have := z_le (x := 0) (by unfold z32; omega) hx
  rw [show (0 : Int32) = Int32.ofInt 0 from rfl, this]
  omega
theorem z_gt0 {x : Int} (hx : z32 x) : 0 < Int32.ofInt x ↔ 0 < x := z_lt (x := 0) (by unfold z32; omega) hx
theorem z_le0 {x : Int} (hx : z32 x) : Int32.ofInt x ≤ 0 ↔ ¬ 0 < x := by
  have := z_le (y := 0) hx (by unfold z32; omega)
  rw [show (0 : Int32) = Int32.ofInt 0 from rfl, this]
  omega
theorem z_ne {x y : Int} (hx : z32 x) (hy : z32 y) : ¬ Int32.ofInt x = Int32.ofInt y ↔ ¬ x = y := not_congr (z_eq hx hy)
theorem z_ge {x y : Int} (hx : z32 x) (hy : z32 y) : Int32.ofInt y ≤ Int32.ofInt x ↔ ¬ x < y := by rw [z_le hy hx]; omega
theorem z_le2 {x y : Int} (hx : z32 x) (hy : z32 y) : Int32.ofInt x ≤ Int32.ofInt y ↔ ¬ y < x := by rw [z_le hx hy]; omega
theorem zlk_at {x : Int} {d : Nat} {k : Nat → zO} {r : zV × zS} {j pc : Nat} {d' dd : Int} (hd0 : dd.toNat = d) : ∀ (ps' ps : List (Int × Int)), ztgp j pc ps' ps = true → ztg j pc d' dd = true → zlk x d k ps = some r → ∃ t off, k t = some r ∧ lookupswitch.offset ps' d' x = off ∧ (zpc j pc : Int) + off = (zpc j t : Int)
  | [], [], _, hd, h => ⟨d, d', h, rfl, by rw [← hd0]; exact ztg_of hd⟩
  | a :: l, b :: m, hp, hd, h => by
    simp only [ztgp, Bool.and_eq_true, decide_eq_true_eq] at hp
    obtain ⟨⟨h1, h2⟩, h3⟩ := hp
    obtain ⟨a1, a2⟩ := a
    unfold zlk at h
    rw [lookupswitch.offset_cons]
    simp only at h1 h2
    split at h
    · next c => exact ⟨b.2.toNat, a2, h, by rw [if_pos (by omega)], ztg_of h2⟩
    · next c =>
      rw [if_neg (by omega)]
      exact zlk_at hd0 l m h3 hd h
  | [], _ :: _, hp, _, _ => by cases hp
  | _ :: _, [], hp, _, _ => by cases hp
theorem zn_int {t : Nat} {ty : FieldType} (h : zfok t ty = true) (ht : t = 0) (hb : ty ≠ .boolean) (x : Int32) : narrow ty (.int x) = .int x ∧ fits ty (.int x) = true := by
  subst ht
  cases ty <;> first | (cases h; done) | exact ⟨rfl, rfl⟩ | exact absurd rfl hb
theorem zn_long {t : Nat} {ty : FieldType} (h : zfok t ty = true) (ht : t = 1) (x : Int64) : narrow ty (.long x) = .long x ∧ fits ty (.long x) = true := by
  subst ht
  cases ty <;> first | (cases h; done) | exact ⟨rfl, rfl⟩
theorem zn_ref {t : Nat} {ty : FieldType} (h : zfok t ty = true) (ht : t = 2) (r : Option Nat) : narrow ty (va_rf r) = va_rf r ∧ fits ty (va_rf r) = true := by
  subst ht
  cases ty <;> first | (cases h; done) | (cases r <;> exact ⟨rfl, rfl⟩)
theorem zn_bool {x : Int} (hx : x = 0 ∨ x = 1) : narrow .boolean (.int (Int32.ofInt x)) = .int (Int32.ofInt x) ∧ fits .boolean (.int (Int32.ofInt x)) = true := by
  rcases hx with rfl | rfl <;> exact ⟨by decide, by decide⟩
section ZR2
variable {p : Program} {l : Launch} {e : Env} {R : Room} {s : State} {m : MethodId} {args : Array Value} {below : List Frame} {meth : Method} {c : Code} {H : Heap} {locs : List Loc} {cells slots : Nat} {Q : State → Prop}
variable {cc : ByteArray} {pc : Nat} {ls : Array Slot} {rest : List Value}
/-- a field is written -/
theorem zputW {g : zG} {L : Nat} {xs : Nat → Int} (hx : p.tables.exec = Jvm.exec) (hb : c.code = cc) {own : String} {ci index k a : Nat} {q : vw_C} (hts : ∀ w ∈ zGw, w.before args s = true) (hq : vwCl[ci]? = some q) (hown : s.vm.findClass own = some m.cls) (hK : va_K g.1 vwCl (ztys g) s) {σ σ' : zS} (hH : zHP g σ H) (hO : zOK (zB L xs) σ) (hS : va_S (zAr g) s.heap H locs) (hcc : (σ.2.2.1 a).1 = ci + 1) (h10 : ci < 10) (hk : k < znf ci)
    (hlink : (Cond.fieldLink own index (q.2.1 k).1 (q.2.1 k).2.1 (q.2.1 k).2.2.1).before args s = true) (hfin : (q.2.1 k).2.2.2 = false ∨ (meth.name = "<init>" ∧ (q.2.1 k).1 = own)) {ty : FieldType} {w : zV} (hd : parseFieldDescriptor (q.2.1 k).2.2.1 = some ty) (hn : narrow ty (zv g w) = zv g w ∧ fits ty (zv g w) = true)
    (e1 : σ'.1 = σ.1) (e2 : σ'.2.2.1 = σ.2.2.1) (e3 : ∀ j, j ≠ k → σ'.2.2.2.1 a j = σ.2.2.2.1 a j ∧ σ'.2.2.2.2 a j = σ.2.2.2.2 a j) (e4 : zrd (zft ci k) (σ'.2.2.2.1 a k) (σ'.2.2.2.2 a k) = w) (e5 : ∀ q, q ≠ a → zent g σ' q = zent g σ q) (hdg : decode cc pc = .ok (.putfield index, 3))
    (kk : ∀ (H1 : Heap) (locs1 : List Loc), zHP g σ' H1 → va_S (zAr g) s.heap H1 locs1 → W p l e R s m args below meth c H1 locs1 cells slots Q (F0 m (pc + 3) ls rest)) : W p l e R s m args below meth c H locs cells slots Q (F0 m pc ls (zv g w :: zv g (zA a) :: rest)) := by
  obtain ⟨hat, hin, e0⟩ := zobj hH hO hcc h10
  rw [e0]
  obtain ⟨ty0, -, -, hN⟩ := zty hq
  refine zput hx hb hts (zfw hq) hq hown hK hat k (by rw [hN]; exact hk) hlink hfin hd hn.1 hn.2 (by simpa using hk) hdg fun H1 locs1 hA => ?_
  have hE : (Sum.inr (ci, ((List.range (znf ci)).map fun k => zv g (zrd (zft ci k) (σ.2.2.2.1 a k) (σ.2.2.2.2 a k))).set k (zv g w)) : va_E) = zent g σ' a := by
    rw [zent_obj (σ := σ') (by rw [e2]; exact hcc) h10]
    have h1 := zlist_set (n := znf ci) (k := k) (f := fun k => zv g (zrd (zft ci k) (σ.2.2.2.1 a k) (σ.2.2.2.2 a k))) (f' := fun k => zv g (zrd (zft ci k) (σ'.2.2.2.1 a k) (σ'.2.2.2.2 a k))) hk (fun j hj => by simp only [(e3 j hj).1, (e3 j hj).2])
    rw [← h1]
    simp only [e4]
  obtain ⟨g1, g2⟩ := zW1 (σ' := σ') hH hS hin hA hE e1 e5
  exact kk H1 locs1 g1 g2
/-- a read of the script, of a static array, or of an array -/
theorem zialdW {g : zG} {L : Nat} {xs : Nat → Int} (hx : p.tables.exec = Jvm.exec) (hb : c.code = cc) {a : Nat} (hK : va_K g.1 vwCl (ztys g) s) (hRO : zRO g L xs s s.heap) {σ : zS} (hH : zHP g σ H) (hO : zOK (zB L xs) σ) (hS : va_S (zAr g) s.heap H locs) {i : Int} (hi : z32 i) (hc : ((σ.2.2.1 a).1 = 20 ∨ (σ.2.2.1 a).1 = 30 ∨ (σ.2.2.1 a).1 = 31) ∧ 0 ≤ i ∧ i < ((σ.2.2.1 a).2 : Nat)) (hdg : decode cc pc = .ok (.iaload, 1))
    (kk : W p l e R s m args below meth c H locs cells slots Q (F0 m (pc + 1) ls (.int (Int32.ofInt (σ.2.2.2.2 a i.toNat)) :: rest))) : W p l e R s m args below meth c H locs cells slots Q (F0 m pc ls (.int (Int32.ofInt i) :: zv g (zA a) :: rest)) := by
  obtain ⟨hk, h0, h1⟩ := hc
  obtain ⟨hin, hcl⟩ := zin_of hi h0 h1
  rcases hk with hk | hk | hk
  · obtain ⟨hat, -, e0⟩ := zarr hH hO (a := a) (by omega)
    rw [e0]
    rw [zent_int (Or.inl hk)] at hat
    refine va_iald hx hb hK (zP1 hat) 0 0 rfl (by rw [hk]; rfl) hin hdg ?_
    simp only [hcl]
    exact kk
  · obtain rfl : a = 1 := by rcases zB_kind hO (a := a) (by omega) with ⟨-, h⟩ | ⟨h, -⟩ | ⟨h, -⟩ | ⟨h, -⟩ <;> omega
    obtain ⟨-, ⟨b, b1, b2, b3, b4⟩, -⟩ := hRO
    obtain ⟨f1, -, f3⟩ := hO.2.1 1 (by decide)
    have e0 : zv g (zA 1) = .ref b := by show va_rf (zad g 1) = _; unfold zad; rw [if_pos (by decide), b1]; rfl
    rw [e0]
    rw [f1] at hin
    refine va_sld (A := zAr g) hx hb b4 b3 (Nat.not_le.mpr b2) hS hin hdg ?_
    rw [hcl]
    rw [f3] at kk
    exact kk
  · have ha : a = 2 ∨ a = 3 := by rcases zB_kind hO (a := a) (by omega) with ⟨h, -⟩ | ⟨-, h⟩ | ⟨h, -⟩ | ⟨h, -⟩ <;> omega
    obtain ⟨-, -, ⟨t2, a1, a2, -⟩, ⟨t3, b1, b2, -⟩, -⟩ := hRO
    rcases ha with rfl | rfl
    · obtain ⟨f1, -, f3⟩ := hO.2.1 2 (by decide)
      have e0 : zv g (zA 2) = .ref t2 := by show va_rf (zad g 2) = _; unfold zad; rw [if_pos (by decide), a1]; rfl
      rw [e0]
      rw [f1] at hin
      rw [f3] at kk
      exact va_ti (A := zAr g) hx hb a2 hS hin (by rw [hcl]; rfl) hdg kk
    · obtain ⟨f1, -, f3⟩ := hO.2.1 3 (by decide)
      have e0 : zv g (zA 3) = .ref t3 := by show va_rf (zad g 3) = _; unfold zad; rw [if_pos (by decide), b1]; rfl
      rw [e0]
      rw [f1] at hin
      rw [f3] at kk
      exact va_ti (A := zAr g) hx hb b2 hS hin (by rw [hcl]; rfl) hdg kk
theorem zbaldW {g : zG} {L : Nat} {xs : Nat → Int} (hx : p.tables.exec = Jvm.exec) (hb : c.code = cc) {a : Nat} (hK : va_K g.1 vwCl (ztys g) s) (hRO : zRO g L xs s s.heap) {σ : zS} (hH : zHP g σ H) (hO : zOK (zB L xs) σ) (hS : va_S (zAr g) s.heap H locs) {i : Int} (hi : z32 i) (hc : ((σ.2.2.1 a).1 = 23 ∨ (σ.2.2.1 a).1 = 33) ∧ 0 ≤ i ∧ i < ((σ.2.2.1 a).2 : Nat)) (hdg : decode cc pc = .ok (.baload, 1))
    (kk : W p l e R s m args below meth c H locs cells slots Q (F0 m (pc + 1) ls (.int (Int32.ofInt (σ.2.2.2.2 a i.toNat)) :: rest))) : W p l e R s m args below meth c H locs cells slots Q (F0 m pc ls (.int (Int32.ofInt i) :: zv g (zA a) :: rest)) := by
  obtain ⟨hk, h0, h1⟩ := hc
  obtain ⟨hin, hcl⟩ := zin_of hi h0 h1
  rcases hk with hk | hk
  · obtain ⟨hat, -, e0⟩ := zarr hH hO (a := a) (by omega)
    rw [e0]
    rw [zent_int (Or.inr (Or.inr hk))] at hat
    refine va_zald hx hb hK (zP1 hat) 0 3 rfl (by rw [hk]; rfl) hin hdg ?_
    simp only [hcl]
    exact kk
  · have ha : a = 6 ∨ a = 7 := by rcases zB_kind hO (a := a) (by omega) with ⟨h, -⟩ | ⟨h, -⟩ | ⟨h, -⟩ | ⟨-, h⟩ <;> omega
    obtain ⟨-, -, -, -, ⟨adK, adV, k1, k2, k3, k4, k5, -⟩, -⟩ := hRO
    rcases ha with rfl | rfl
    · obtain ⟨f1, -, f3⟩ := hO.2.1 6 (by decide)
      have e0 : zv g (zA 6) = .ref (adV 0) := by show va_rf (zad g 6) = _; unfold zad; rw [if_pos (by decide), k3]; rfl
      rw [e0]
      rw [f1] at hin
      rw [f3] at kk
      exact va_tb (A := zAr g) hx hb (k5.1 0 (by decide)).2.2.2 hS hin (by rw [hcl]; exact congrArg Value.int (zmap_get Int32.ofInt rfl zb0 _)) hdg kk
    · obtain ⟨f1, -, f3⟩ := hO.2.1 7 (by decide)
      have e0 : zv g (zA 7) = .ref (adV 1) := by show va_rf (zad g 7) = _; unfold zad; rw [if_pos (by decide), k4]; rfl
      rw [e0]
      rw [f1] at hin
      rw [f3] at kk
      exact va_tb (A := zAr g) hx hb (k5.1 1 (by decide)).2.2.2 hS hin (by rw [hcl]; exact congrArg Value.int (zmap_get Int32.ofInt rfl zb1 _)) hdg kk
theorem zalenW {g : zG} {L : Nat} {xs : Nat → Int} (hx : p.tables.exec = Jvm.exec) (hb : c.code = cc) {a : Nat} (hK : va_K g.1 vwCl (ztys g) s) (hRO : zRO g L xs s s.heap) {σ : zS} (hH : zHP g σ H) (hO : zOK (zB L xs) σ) (hS : va_S (zAr g) s.heap H locs) (hc : 20 ≤ (σ.2.2.1 a).1 ∧ (σ.2.2.1 a).1 ≠ 32) (hdg : decode cc pc = .ok (.arraylength, 1))
    (kk : W p l e R s m args below meth c H locs cells slots Q (F0 m (pc + 1) ls (.int (Int32.ofInt ((σ.2.2.1 a).2 : Nat)) :: rest))) : W p l e R s m args below meth c H locs cells slots Q (F0 m pc ls (zv g (zA a) :: rest)) := by
  obtain ⟨hc1, hc2⟩ := hc
  by_cases h30 : (σ.2.2.1 a).1 < 30
  · obtain ⟨hat, hin, e0⟩ := zarr hH hO (a := a) (by omega)
    rw [e0]
    have hkd := hO.2.2.1 a hin.1 hin.2
    unfold zkd at hkd
    rcases (show (σ.2.2.1 a).1 = 20 ∨ (σ.2.2.1 a).1 = 21 ∨ (σ.2.2.1 a).1 = 22 ∨ (σ.2.2.1 a).1 = 23 ∨ (σ.2.2.1 a).1 = 24 ∨ (σ.2.2.1 a).1 = 25 by omega) with hk | hk | hk | hk | hk | hk
    · rw [zent_int (Or.inl hk)] at hat
      exact va_alen hx hb hK (zP1 hat) 0 0 rfl (by rw [hk]; rfl) zlenI hdg kk
    · rw [zent_int (Or.inr (Or.inl hk))] at hat
      exact va_alen hx hb hK (zP1 hat) 0 1 rfl (by rw [hk]; rfl) zlenI hdg kk
    · rw [zent_long hk] at hat
      exact va_alen hx hb hK (zP1 hat) 0 2 rfl rfl zlenI hdg kk
    · rw [zent_int (Or.inr (Or.inr hk))] at hat
      exact va_alen hx hb hK (zP1 hat) 0 3 rfl (by rw [hk]; rfl) zlenI hdg kk
    · rw [zent_ref (Or.inl hk)] at hat
      exact va_alen hx hb hK (zP1 hat) 0 4 rfl (by rw [hk]; rfl) zlenI hdg kk
    · rw [zent_ref (Or.inr hk)] at hat
      exact va_alen hx hb hK (zP1 hat) 0 5 rfl (by rw [hk]; rfl) zlenI hdg kk
  · obtain ⟨-, ⟨b, b1, b2, b3, b4⟩, ⟨t2, a1, a2, -⟩, ⟨t3, c1, c2, -⟩, ⟨adK, adV, k1, k2, k3, k4, k5, -⟩, -⟩ := hRO
    rcases zB_kind hO (a := a) (by omega) with ⟨-, rfl⟩ | ⟨-, rfl | rfl⟩ | ⟨h, -⟩ | ⟨-, rfl | rfl⟩
    · have e0 : zv g (zA 1) = .ref b := by show va_rf (zad g 1) = _; unfold zad; rw [if_pos (by decide), b1]; rfl
      rw [e0]
      rw [(hO.2.1 1 (by decide)).1] at kk
      refine va_slen (A := zAr g) hx hb b4 b3 (Nat.not_le.mpr b2) hS hdg ?_
      rw [zlenI]
      exact kk
    · have e0 : zv g (zA 2) = .ref t2 := by show va_rf (zad g 2) = _; unfold zad; rw [if_pos (by decide), a1]; rfl
      rw [e0]
      rw [(hO.2.1 2 (by decide)).1] at kk
      exact va_tlen (A := zAr g) hx hb a2 hS zlenI hdg kk
    · have e0 : zv g (zA 3) = .ref t3 := by show va_rf (zad g 3) = _; unfold zad; rw [if_pos (by decide), c1]; rfl
      rw [e0]
      rw [(hO.2.1 3 (by decide)).1] at kk
      exact va_tlen (A := zAr g) hx hb c2 hS zlenI hdg kk
    · exact absurd h hc2
    · have e0 : zv g (zA 6) = .ref (adV 0) := by show va_rf (zad g 6) = _; unfold zad; rw [if_pos (by decide), k3]; rfl
      rw [e0]
      rw [(hO.2.1 6 (by decide)).1] at kk
      exact va_tlen (A := zAr g) hx hb (k5.1 0 (by decide)).2.2.2 hS zlenI hdg kk
    · have e0 : zv g (zA 7) = .ref (adV 1) := by show va_rf (zad g 7) = _; unfold zad; rw [if_pos (by decide), k4]; rfl
      rw [e0]
      rw [(hO.2.1 7 (by decide)).1] at kk
      exact va_tlen (A := zAr g) hx hb (k5.1 1 (by decide)).2.2.2 hS zlenI hdg kk
end ZR2
