/-! THE WORLD that the class and the model share between two calls -/
/-- one cut in the book: the class's number v, the model's u -/
def qPg (v u : Int) : Prop := ∃ dd p o y : Nat, dd ≤ 9999 ∧ p < 5 ∧ o < 5 ∧ y < 24 ∧ v = ((((dd * 8 + p) * 8 + o) * 32 + y : Nat) : Int) ∧ u = ((((dd * 5 + p) * 5 + o) * 24 + y : Nat) : Int)
/-- a Rings at r is as the row A has it -/
def qRs (M : Nat → Nat → Int) (r : Nat) (A : Nat → Int) : Prop := qRg M r (qg A) ∧ (M r 3 = A 10 ∧ M r 4 = A 8 ∧ M r 5 = A 7 ∧ M r 6 = A 9) ∧ ∀ i : Nat, (i : Int) < A 10 → qPg (M (r + 3) i) (A (4850 + i))
/-- the row as it was at a step that is kept at x -/
def qsn (A : Nat → Int) (x : Nat) : Nat → Int := fun k => if k = 0 then A x else if 7 ≤ k ∧ k < 131 then A (x + 1 + (k - 7)) else if 4850 ≤ k then A (x + 125 + (k - 4850)) else A k
def qsx (i : Nat) : Nat := 200 + 155 * i
/-- what is kept at x is a step of A -/
def qSi (A : Nat → Int) (x : Nat) : Prop :=
  (0 ≤ A x ∧ A x ≤ A 0) ∧ (0 ≤ A (x + 1) ∧ A (x + 1) ≤ 9999) ∧ (0 ≤ A (x + 2) ∧ A (x + 2) ≤ 9999) ∧ (0 ≤ A (x + 3) ∧ A (x + 3) < 30689) ∧ (0 ≤ A (x + 4) ∧ A (x + 4) ≤ 30) ∧
  ∀ o y : Nat, (o : Int) < A x → y < 24 → 0 ≤ A (x + 5 + 24 * o + y) ∧ A (x + 5 + 24 * o + y) < 3 + A 1 ∧ (A (x + 5 + 24 * o + y) = 0 ↔ A (11 + 24 * o + y) = 0)
/-- the place of step i in the class's round, of a Steps at q -/
def qrw (M : Nat → Nat → Int) (q i : Nat) : Nat := q + 2 + 4 * (((M q 1).toNat + i) % 30)
def qSp (M : Nat → Nat → Int) (q : Nat) (A : Nat → Int) : Prop := (M q 2 = A 4 ∧ 0 ≤ M q 1 ∧ M q 1 < 30) ∧ ∀ i : Nat, (i : Int) < A 4 → qRs M (qrw M q i) (qsn A (qsx i)) ∧ qSi A (qsx i)
/-- a Town at t is as the row A has it -/
def qTo (M : Nat → Nat → Int) (t : Nat) (A : Nat → Int) : Prop := qTw M t A ∧ qRs M (t + 11) A ∧ qSp M (t + 15) A ∧ qIn A
/-- the deeds of a text: the class's at q, the model's at b -/
def qDe (S : Nat → Nat × Nat) (R : Nat → Nat → Nat) (M : Nat → Nat → Int) (q : Nat) (b : Nat) : Prop :=
  319 ≤ R q 1 ∧ ∃ c : Nat, M 308 b = c ∧ c ≤ 24 ∧ S (R q 1) = (20, 4 * c) ∧ ∀ k, k < c → ∃ e : Nat, e ≤ 9 ∧ M (R q 1) (4 * k) = e ∧ M 308 (b + 1 + 4 * k) = e ∧
    (3 ≤ e → M (R q 1) (4 * k + 1) = M 308 (b + 1 + 4 * k + 1)) ∧ (e = 4 ∨ e = 6 ∨ e = 7 ∨ e = 8 → M (R q 1) (4 * k + 2) = M 308 (b + 1 + 4 * k + 2)) ∧ (e = 6 ∨ e = 8 → M (R q 1) (4 * k + 3) = M 308 (b + 1 + 4 * k + 3)) ∧ (e = 9 → 1 ≤ M 308 (b + 1 + 4 * k + 1) ∧ M 308 (b + 1 + 4 * k + 1) ≤ 60)
/-- text t, by the class's object q -/
def qTe (n : Nat) (S : Nat → Nat × Nat) (R : Nat → Nat → Nat) (M : Nat → Nat → Int) (q t : Nat) (w : qWt) : Prop :=
  q < n ∧ R q 0 < n ∧ R q 1 < n ∧ R q 2 < n ∧ R q 3 < n ∧ qTm S R M q w ∧ qTx (M 308) (705 * t) w ∧ qDe S R M q (705 * t)
def qTt (n : Nat) (S : Nat → Nat × Nat) (R : Nat → Nat → Nat) (M : Nat → Nat → Int) (W : Nat → qWt) : Prop :=
  (∀ t : Nat, (t : Int) < M 306 2 → qTe n S R M (R 14 t) t (W t)) ∧ (∀ t : Nat, (t : Int) < M 307 2 → qTe n S R M (R 151 t) t (W t)) ∧ M 307 2 ≤ M 306 2 ∧ ∀ t : Nat, t < 4 → (R 14 t = 0 ∨ (R 14 t < n ∧ (S (R 14 t)).1 = 7)) ∧ (R 151 t = 0 ∨ (R 151 t < n ∧ (S (R 151 t)).1 = 7))
/-- tape, fault -/
def qTp (M : Nat → Nat → Int) : Prop := (0 ≤ M 9 9 ∧ M 9 9 ≤ 300 ∧ M 305 4 = M 9 9) ∧ (M 305 5 = M 9 10 ∧ M 305 6 = M 9 11) ∧ M 305 23 = 1 ∧ ∀ k : Nat, (k : Int) < M 9 9 → M 304 k = M 309 k ∧ 0 ≤ M 309 k ∧ M 309 k < 256
def qWd (n : Nat) (S : Nat → Nat × Nat) (R : Nat → Nat → Nat) (M : Nat → Nat → Int) (W : Nat → qWt) : Prop :=
  (319 ≤ n ∧ qFx S R ∧ qSt M) ∧ qTo M 10 (M 306) ∧ qTo M 147 (M 307) ∧ qTt n S R M W ∧ qTp M
/-- rows that calls use as they like -/
def qY (a : Nat) : Prop := (284 ≤ a ∧ a ≤ 303) ∨ (310 ≤ a ∧ a ≤ 318)
def qEq (M M' : Nat → Nat → Int) : Prop := (∀ a, a ≠ 305 → ¬ qY a → M' a = M a) ∧ M' 305 4 = M 305 4 ∧ M' 305 5 = M 305 5 ∧ M' 305 6 = M 305 6 ∧ M' 305 23 = M 305 23
theorem qEq_r (M : Nat → Nat → Int) : qEq M M := ⟨fun _ _ _ => rfl, rfl, rfl, rfl, rfl⟩
theorem qEq_t {M M1 M2 : Nat → Nat → Int} (h1 : qEq M M1) (h2 : qEq M1 M2) : qEq M M2 := ⟨fun a x y => (h2.1 a x y).trans (h1.1 a x y), h2.2.1.trans h1.2.1, h2.2.2.1.trans h1.2.2.1, h2.2.2.2.1.trans h1.2.2.2.1, h2.2.2.2.2.trans h1.2.2.2.2⟩
theorem qEq_rows {M M' : Nat → Nat → Int} (h : ∀ a, ¬ qY a → M' a = M a) : qEq M M' := by
  have h5 := h 305 (by unfold qY; omega)
  exact ⟨fun a _ hy => h a hy, by rw [h5], by rw [h5], by rw [h5], by rw [h5]⟩
theorem qRs_x {M M' : Nat → Nat → Int} {r : Nat} {A : Nat → Int} (h : ∀ a, r ≤ a → a ≤ r + 3 → M' a = M a) (hr : qRs M r A) : qRs M' r A := by
  unfold qRs at *
  rw [h r (by omega) (by omega), h (r + 3) (by omega) (by omega)]
  exact ⟨qRg_x (h _ (by omega) (by omega)) (h _ (by omega) (by omega)) hr.1, hr.2⟩
theorem qrw_in (M : Nat → Nat → Int) (q i : Nat) : q + 2 ≤ qrw M q i ∧ qrw M q i + 3 ≤ q + 121 := by unfold qrw; omega
theorem qSp_x {M M' : Nat → Nat → Int} {q : Nat} {A : Nat → Int} (h : ∀ a, q ≤ a → a ≤ q + 121 → M' a = M a) (hs : qSp M q A) : qSp M' q A := by
  have e : ∀ i, qrw M' q i = qrw M q i := fun i => by unfold qrw; rw [h q (by omega) (by omega)]
  unfold qSp at *
  rw [h q (by omega) (by omega)]
  refine ⟨hs.1, fun i hi => ?_⟩
  rw [e i]
  have hb := qrw_in M q i
  exact ⟨qRs_x (fun a x y => h a (by omega) (by omega)) (hs.2 i hi).1, (hs.2 i hi).2⟩
theorem qTo_x {M M' : Nat → Nat → Int} {t : Nat} {A : Nat → Int} (h : ∀ a, t ≤ a → a ≤ t + 136 → M' a = M a) (ht : qTo M t A) : qTo M' t A :=
  ⟨qTw_x (fun a x y => h a (by omega) (by omega)) ht.1, qRs_x (fun a x y => h a (by omega) (by omega)) ht.2.1, qSp_x (fun a x y => h a (by omega) (by omega)) ht.2.2.1, ht.2.2.2⟩
theorem qDe_x {S : Nat → Nat × Nat} {R : Nat → Nat → Nat} {M M' : Nat → Nat → Int} {q b : Nat} (h : ∀ a, 319 ≤ a → M' a = M a) (h8 : M' 308 = M 308) (hd : qDe S R M q b) : qDe S R M' q b := by
  unfold qDe at *
  rw [h8, h _ hd.1]
  exact hd
theorem qTe_x {n : Nat} {S : Nat → Nat × Nat} {R : Nat → Nat → Nat} {M M' : Nat → Nat → Int} {q t : Nat} {w : qWt} (h : ∀ a, 319 ≤ a → M' a = M a) (h8 : M' 308 = M 308) (hd : qTe n S R M q t w) : qTe n S R M' q t w := by
  obtain ⟨h1, h2, h3, h4, h5, h6, h7, h9⟩ := hd
  exact ⟨h1, h2, h3, h4, h5, qTm_x h h6, by rw [h8]; exact h7, qDe_x h h8 h9⟩
theorem qTt_x {n : Nat} {S : Nat → Nat × Nat} {R : Nat → Nat → Nat} {M M' : Nat → Nat → Int} {W : Nat → qWt} (h : ∀ a, 319 ≤ a → M' a = M a) (h8 : M' 308 = M 308) (h6 : M' 306 2 = M 306 2) (h7 : M' 307 2 = M 307 2) (hd : qTt n S R M W) : qTt n S R M' W := by
  unfold qTt at *
  rw [h6, h7]
  exact ⟨fun t ht => qTe_x h h8 (hd.1 t ht), fun t ht => qTe_x h h8 (hd.2.1 t ht), hd.2.2⟩
theorem qTp_x {M M' : Nat → Nat → Int} (h9 : M' 9 = M 9) (h4 : M' 304 = M 304) (h : M' 309 = M 309) (h5 : M' 305 4 = M 305 4 ∧ M' 305 5 = M 305 5 ∧ M' 305 6 = M 305 6 ∧ M' 305 23 = M 305 23) (hp : qTp M) : qTp M' := by
  unfold qTp at *
  rw [h9, h4, h, h5.1, h5.2.1, h5.2.2.1, h5.2.2.2]
  exact hp
theorem qWd_x {n : Nat} {S : Nat → Nat × Nat} {R : Nat → Nat → Nat} {M M' : Nat → Nat → Int} {W : Nat → qWt} (h : qEq M M') (hw : qWd n S R M W) : qWd n S R M' W := by
  obtain ⟨⟨h1, h2, h3⟩, h4, h5, h6, h7⟩ := hw
  obtain ⟨e, e4⟩ := h
  have e6 : M' 306 = M 306 := e 306 (by decide) (by unfold qY; omega)
  have e7 : M' 307 = M 307 := e 307 (by decide) (by unfold qY; omega)
  have e8 : M' 308 = M 308 := e 308 (by decide) (by unfold qY; omega)
  refine ⟨⟨h1, h2, qSt_x (fun a ha => e a (by omega) (by unfold qY; omega)) h3⟩, ?_, ?_, qTt_x (fun a ha => e a (by omega) (by unfold qY; omega)) e8 (by rw [e6]) (by rw [e7]) h6, qTp_x (e 9 (by decide) (by unfold qY; omega)) (e 304 (by decide) (by unfold qY; omega)) (e 309 (by decide) (by unfold qY; omega)) e4 h7⟩
  · rw [e6]
    exact qTo_x (fun a x y => e a (by omega) (by unfold qY; omega)) h4
  · rw [e7]
    exact qTo_x (fun a x y => e a (by omega) (by unfold qY; omega)) h5
/-- both sides of a call: the same answer, and a world again -/
def qBo (j jm : Nat) (as : List zV) (n s : Nat) (S : Nat → Nat × Nat) (R : Nat → Nat → Nat) (M : Nat → Nat → Int) : Prop :=
  ∃ (v : zV) (n1 s1 : Nat) (S1 : Nat → Nat × Nat) (R1 : Nat → Nat → Nat) (M1 M2 : Nat → Nat → Int) (W : Nat → qWt), zcal zPP 100 j (zA 9 :: as) (n, s, S, R, M) = some (v, (n1, s1, S1, R1, M1)) ∧ zcal zPP 100 jm (zA 305 :: as) (n1, s1, S1, R1, M1) = some (v, (n1, s1, S1, R1, M2)) ∧ qWd n1 S1 R1 M2 W ∧
    (n1 ≤ n + 5 ∧ s1 ≤ s + 410 ∧ S1 1 = S 1 ∧ M2 1 = M 1)
