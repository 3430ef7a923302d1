/-! TOKENS: words and characters, the class -/
def qpk (b : Nat → Nat) : Nat → Nat
  | 0 => 0
  | k + 1 => qpk b k * 256 + b k
theorem qpk_inj {b r : Nat → Nat} : ∀ {k : Nat}, (∀ j, j < k → b j < 256 ∧ r j < 256) → (qpk b k = qpk r k ↔ ∀ j, j < k → b j = r j)
  | 0, _ => ⟨fun _ j hj => absurd hj (Nat.not_lt_zero j), fun _ => rfl⟩
  | k + 1, h => by
    have ih := qpk_inj (b := b) (r := r) (k := k) fun j hj => h j (by omega)
    have hk := h k (by omega)
    show qpk b k * 256 + b k = qpk r k * 256 + r k ↔ _
    constructor
    · intro e j hj
      have e1 : qpk b k = qpk r k := by omega
      have e2 : b k = r k := by omega
      by_cases hjk : j = k
      · subst hjk; exact e2
      · exact ih.mp e1 j (by omega)
    · intro e
      rw [ih.mpr fun j hj => e j (by omega), e k (by omega)]
theorem qpk_rg {b : Nat → Nat} : ∀ {k : Nat}, (∀ j, j < k → 0 < b j ∧ b j < 256) → 0 < k → 256 ^ (k - 1) ≤ qpk b k ∧ qpk b k < 256 ^ k
  | 0, _, h0 => absurd h0 (Nat.lt_irrefl 0)
  | 1, h, _ => by
    have := h 0 (by decide)
    show 256 ^ 0 ≤ 0 * 256 + b 0 ∧ 0 * 256 + b 0 < 256 ^ 1
    have e0 : 256 ^ 0 = 1 := rfl
    have e1 : 256 ^ 1 = 256 := rfl
    omega
  | k + 2, h, _ => by
    have ih := qpk_rg (b := b) (k := k + 1) (fun j hj => h j (by omega)) (by omega)
    have hk := h (k + 1) (by omega)
    show 256 ^ (k + 1) ≤ qpk b (k + 1) * 256 + b (k + 1) ∧ qpk b (k + 1) * 256 + b (k + 1) < 256 ^ (k + 2)
    have e1 : 256 ^ (k + 1) = 256 ^ k * 256 := Nat.pow_succ 256 k
    have e2 : 256 ^ (k + 2) = 256 ^ (k + 1) * 256 := Nat.pow_succ 256 (k + 1)
    have e3 : k + 1 - 1 = k := rfl
    rw [e3] at ih
    omega
/-- the least place in a list, from k on; 44 none -/
def qfi (v : Nat) : List Nat → Nat → Nat
  | [], _ => 44
  | c :: cs, k => if v = c then k else qfi v cs (k + 1)
def qwords : List Nat := [465558201459, 1634166131, 1885436275, 7299435, 2036687218, 123581014175598, 1818586724, 1650549611, 1885434739, 6578553, 1802071652, 7305070, 1751477348, 7825519, 1818584692, 28518, 29807, 26995, 1919905652, 491395114867, 26982, 1952998766, 1701606245, 6647396, 28530, 6385252, 7237492]
def qmarks : List Nat := [60, 62, 61, 35, 43, 45, 42, 47, 40, 41, 44, 59]
/-- letters of word w, as they are spelt -/
def qsp (w j : Nat) : Nat := (znth 0 zb0 (w * 7 + j)).toNat
def qinr (v len : Nat) : Bool := decide (256 ^ (len - 1) ≤ v) && decide (v < 256 ^ len)
theorem qsp_ck : ∀ w, w < 27 → ∀ len, len < 7 → 0 < len → (qsp w len = 32 ∧ qpk (qsp w) len = znth 0 qwords w) ∨ (qsp w len = 32 ∧ qsp w (len - 1) = 32 ∧ qinr (znth 0 qwords w) len = false) ∨ (qsp w len ≠ 32 ∧ qinr (znth 0 qwords w) len = false) := by decide +kernel
theorem qsp_v : ∀ k, k < 189 → zand (znth 0 zb0 k) 255 % 65536 = znth 0 zb0 k ∧ 0 ≤ znth 0 zb0 k ∧ znth 0 zb0 k < 256 := by decide +kernel
def qisL (c : Nat) : Bool := (decide (65 ≤ c) && decide (c ≤ 90)) || (decide (97 ≤ c) && decide (c ≤ 122))
def qisD (c : Nat) : Bool := decide (48 ≤ c) && decide (c ≤ 57)
theorem qisL_in {c : Nat} (h : qisL c = true) : 65 ≤ c ∧ c ≤ 122 := by
  unfold qisL at h
  simp at h
  omega
/-- when a word is the w-th -/
theorem qsp_iff {w len : Nat} (hw : w < 27) (hl : len < 7) (h0 : 0 < len) {b : Nat → Nat} (hb : ∀ j, j < len → 65 ≤ b j ∧ b j ≤ 122) : ((∀ j, j < len → qsp w j = b j) ∧ qsp w len = 32) ↔ qpk b len = znth 0 qwords w := by
  have hr := qpk_rg (b := b) (k := len) (fun j hj => by have := hb j hj; omega) h0
  have hs : ∀ j, j < len → qsp w j < 256 := fun j hj => by
    have := qsp_v (w * 7 + j) (by omega)
    unfold qsp
    omega
  have hin : qinr (qpk b len) len = true := by
    unfold qinr
    rw [decide_eq_true hr.1, decide_eq_true hr.2]
    rfl
  rcases qsp_ck w hw len hl h0 with ⟨h1, h2⟩ | ⟨h1, h2, h3⟩ | ⟨h1, h2⟩
  · rw [← h2, qpk_inj (fun j hj => ⟨by have := hb j hj; omega, hs j hj⟩)]
    exact ⟨fun h j hj => (h.1 j hj).symm, fun h => ⟨fun j hj => (h j hj).symm, h1⟩⟩
  · constructor
    · intro h
      have := h.1 (len - 1) (by omega)
      have := hb (len - 1) (by omega)
      omega
    · intro h
      rw [h, h3] at hin
      cases hin
  · constructor
    · intro h
      exact absurd h.2 h1
    · intro h
      rw [h, h2] at hin
      cases hin
theorem qw_drop : ∀ w, w < 27 → ∀ v : Nat, qfi v (qwords.drop w) w = if v = znth 0 qwords w then w else qfi v (qwords.drop (w + 1)) (w + 1) := fun w hw v => by
  have : ∀ (l : List Nat) (k w : Nat), w < l.length → qfi v (l.drop w) k = if v = znth 0 l w then k else qfi v (l.drop (w + 1)) (k + 1) := by
    intro l
    induction l with
    | nil => intro k w h; exact absurd h (Nat.not_lt_zero w)
    | cons c cs ih =>
      intro k w h
      cases w with
      | zero => rfl
      | succ w => exact ih k w (Nat.lt_of_succ_lt_succ h)
  exact this qwords w w hw
theorem qm_drop : ∀ w, w < 12 → ∀ v k : Nat, qfi v (qmarks.drop w) k = if v = znth 0 qmarks w then k else qfi v (qmarks.drop (w + 1)) (k + 1) := fun w hw v k => by
  have : ∀ (l : List Nat) (k w : Nat), w < l.length → qfi v (l.drop w) k = if v = znth 0 l w then k else qfi v (l.drop (w + 1)) (k + 1) := by
    intro l
    induction l with
    | nil => intro k w h; exact absurd h (Nat.not_lt_zero w)
    | cons c cs ih =>
      intro k w h
      cases w with
      | zero => rfl
      | succ w => exact ih k w (Nat.lt_of_succ_lt_succ h)
  exact this qmarks k w hw
theorem qmk_v : ∀ k, k < 12 → znth 0 zb1 k = ((znth 0 qmarks k : Nat) : Int) ∧ znth 0 qmarks k < 128 := by decide
theorem qwk1 {w j : Nat} (h : w < 27) (hj : j < 8) : zw32 (zw32 ((w : Int) * 7) + j) = ((w * 7 + j : Nat) : Int) := by unfold zw32; omega
section QF
variable {S : Nat → Nat × Nat} {R : Nat → Nat → Nat} {M M' M0 M1 M2 M3 : Nat → Nat → Int} {n s d r : Nat} {A : Nat → Int} {W : Nat → qWt} {w0 w : qWt}
theorem k_charAt (hF : qFx S R) (hS : qSt M) {k : Nat} (hk : k < 189) : zcal zPP (d + 4) 2 [zA 4, zI k] (n, s, S, R, M) = some (zI (znth 0 zb0 k), (n, s, S, R, M)) := by
  obtain ⟨-, -, h6, -, h4, -⟩ := hS
  obtain ⟨v1, v2, v3⟩ := qsp_v k hk
  have e6 := h6 k
  generalize znth 0 zb0 k = v at *
  have e3 : zcal zPP (d + 3) 3 [zA 4] (n, s, S, R, M) = some (zI 1, (n, s, S, R, M)) := by
    rw [c_String_isLatin1]
    simp (disch := omega) only [h4, qff hF, qltT, qltF, qleT, qleF, qeqT, qeqF, Int.reduceEq, Int.reduceNe, Int.reduceLT, Int.reduceLE, Int.reduceToNat, Int.reduceAdd, Int.reduceSub, Int.reduceMul, Int.reduceNeg, Nat.reduceAdd, Nat.reduceMul, Nat.reduceEqDiff, Nat.reduceLT, Int.cast_ofNat_Int, Int.lt_irrefl, Bool.false_eq_true, ↓reduceIte, ↓reduceDIte, zbI, zbL, zbA, zbV, qrg, qrg2, qnn, qz, zup_at, zup_r, zup_ne, true_and, and_true, true_or, or_true, and_self, or_self, false_or, or_false, false_and, and_false, Int.toNat_natCast, Int.toNat_add, Int.toNat_mul, Int.toNat_zero, Int.toNat_one, qtn, Int.natCast_add, qnat1, qnat0, ne_eq, not_true_eq_false, not_false_eq_true, eq_self, qbool]
  have e14 : zcal zPP (d + 1) 14 [zI k, zI 189, zA 8] (n, s, S, R, M) = some (zI k, (n, s, S, R, M)) := by
    rw [c_Preconditions_checkIndex]
    simp (disch := omega) only [qff hF, qltT, qltF, qleT, qleF, qeqT, qeqF, Int.reduceEq, Int.reduceNe, Int.reduceLT, Int.reduceLE, Int.reduceToNat, Int.reduceAdd, Int.reduceSub, Int.reduceMul, Int.reduceNeg, Nat.reduceAdd, Nat.reduceMul, Nat.reduceEqDiff, Nat.reduceLT, Int.cast_ofNat_Int, Int.lt_irrefl, Bool.false_eq_true, ↓reduceIte, ↓reduceDIte, zbI, zbL, zbA, zbV, qrg, qrg2, qnn, qz, zup_at, zup_r, zup_ne, true_and, and_true, true_or, or_true, and_self, or_self, false_or, or_false, false_and, and_false, Int.toNat_natCast, Int.toNat_add, Int.toNat_mul, Int.toNat_zero, Int.toNat_one, qtn, Int.natCast_add, qnat1, qnat0, ne_eq, not_true_eq_false, not_false_eq_true, eq_self, qbool]
  have e4 : zcal zPP (d + 2) 4 [zI k, zI 189] (n, s, S, R, M) = some (zU, (n, s, S, R, M)) := by
    rw [c_String_checkIndex, e14]
    rfl
  have e9 : zcal zPP (d + 3) 9 [zA 6, zI k] (n, s, S, R, M) = some (zI v, (n, s, S, R, M)) := by
    rw [c_StringLatin1_charAt]
    simp (disch := omega) only [e4, e6, v1, qff hF, qltT, qltF, qleT, qleF, qeqT, qeqF, Int.reduceEq, Int.reduceNe, Int.reduceLT, Int.reduceLE, Int.reduceToNat, Int.reduceAdd, Int.reduceSub, Int.reduceMul, Int.reduceNeg, Nat.reduceAdd, Nat.reduceMul, Nat.reduceEqDiff, Nat.reduceLT, Int.cast_ofNat_Int, Int.lt_irrefl, Bool.false_eq_true, ↓reduceIte, ↓reduceDIte, zbI, zbL, zbA, zbV, qrg, qrg2, qnn, qz, zup_at, zup_r, zup_ne, true_and, and_true, true_or, or_true, and_self, or_self, false_or, or_false, false_and, and_false, Int.toNat_natCast, Int.toNat_add, Int.toNat_mul, Int.toNat_zero, Int.toNat_one, qtn, Int.natCast_add, qnat1, qnat0, ne_eq, not_true_eq_false, not_false_eq_true, eq_self, qbool]
    rw [if_pos (by decide)]
  rw [c_String_charAt]
  simp (disch := omega) only [e3, e9, qff hF, qltT, qltF, qleT, qleF, qeqT, qeqF, Int.reduceEq, Int.reduceNe, Int.reduceLT, Int.reduceLE, Int.reduceToNat, Int.reduceAdd, Int.reduceSub, Int.reduceMul, Int.reduceNeg, Nat.reduceAdd, Nat.reduceMul, Nat.reduceEqDiff, Nat.reduceLT, Int.cast_ofNat_Int, Int.lt_irrefl, Bool.false_eq_true, ↓reduceIte, ↓reduceDIte, zbI, zbL, zbA, zbV, qrg, qrg2, qnn, qz, zup_at, zup_r, zup_ne, true_and, and_true, true_or, or_true, and_self, or_self, false_or, or_false, false_and, and_false, Int.toNat_natCast, Int.toNat_add, Int.toNat_mul, Int.toNat_zero, Int.toNat_one, qtn, Int.natCast_add, qnat1, qnat0, ne_eq, not_true_eq_false, not_false_eq_true, eq_self, qbool]
theorem k_like (hF : qFx S R) (hS : qSt M) {w p e len : Nat} (hw : w < 27) (hl : len < 7) (hpe : p + len ≤ 300) {b : Nat → Nat} (hb : ∀ j, j < len → M 304 (p + j) = b j) :
    ∀ (m j : Nat), j + m = len → (∀ i, i < j → qsp w i = b i) →
      (((∀ j, j < len → qsp w j = b j) ∧ qsp w len = 32) → zR zPP (d + 4) 147 25 [zA 304, zI p, zI e, zI len, zI w, zI j] [] (n, s, S, R, M) = some (zI w, (n, s, S, R, M))) ∧
      (¬ ((∀ j, j < len → qsp w j = b j) ∧ qsp w len = 32) → ∃ g, zR zPP (d + 4) 147 25 [zA 304, zI p, zI e, zI len, zI w, zI j] [] (n, s, S, R, M) = zR zPP (d + 4) 147 20 [zA 304, zI p, zI e, zI len, zI ((w + 1 : Nat) : Int), g] [] (n, s, S, R, M)) := by
  intro m
  induction m with
  | zero =>
    intro j hj hm
    have hjl : j = len := by omega
    subst hjl
    have hc := k_charAt (n := n) (s := s) (d := d) (M := M) hF hS (k := w * 7 + j) (by omega)
    have hv := qsp_v (w * 7 + j) (by omega)
    have hsp : znth 0 zb0 (w * 7 + j) = qsp w j := by unfold qsp; omega
    rw [hsp] at hc
    constructor
    · intro h
      rw [e_Sign_word_25, if_neg (by omega), if_pos rfl, qwk1 hw (show j < 8 by omega), hc]
      simp only [zbI]
      rw [if_pos (by have := h.2; omega)]
    · intro h
      have h32 : ¬ qsp w j = 32 := fun z => h ⟨hm, z⟩
      refine ⟨zI j, ?_⟩
      rw [e_Sign_word_25, if_neg (by omega), if_pos rfl, qwk1 hw (show j < 8 by omega), hc]
      simp only [zbI]
      rw [if_neg (by omega), qw1 (show w < 100000 by omega)]
  | succ m ih =>
    intro j hj hm
    have hc := k_charAt (n := n) (s := s) (d := d) (M := M) hF hS (k := w * 7 + j) (by omega)
    have hv := qsp_v (w * 7 + j) (by omega)
    have hsp : znth 0 zb0 (w * 7 + j) = qsp w j := by unfold qsp; omega
    rw [hsp] at hc
    have hbj := hb j (by omega)
    have hstep : zR zPP (d + 4) 147 25 [zA 304, zI p, zI e, zI len, zI w, zI j] [] (n, s, S, R, M) = if ((qsp w j : Nat) : Int) = b j then zR zPP (d + 4) 147 25 [zA 304, zI p, zI e, zI len, zI w, zI ((j + 1 : Nat) : Int)] [] (n, s, S, R, M) else zR zPP (d + 4) 147 20 [zA 304, zI p, zI e, zI len, zI ((w + 1 : Nat) : Int), zI j] [] (n, s, S, R, M) := by
      rw [e_Sign_word_25, if_pos (by omega), qwk1 hw (show j < 8 by omega), hc]
      simp only [zbI, qwa (a := p) (b := j) (by omega), qff hF, Int.toNat_natCast, hbj, true_or, true_and, or_true]
      rw [if_pos (by omega), if_neg (show ¬ (j : Int) = len by omega), qw1 (show j < 100000 by omega), qw1 (show w < 100000 by omega)]
    rw [hstep]
    by_cases he : qsp w j = b j
    · rw [if_pos (by omega)]
      exact ih (j + 1) (by omega) (fun i hi => by
        by_cases hij : i = j
        · subst hij; exact he
        · exact hm i (by omega))
    · rw [if_neg (by omega)]
      exact ⟨fun h => absurd (h.1 j (by omega)) he, fun _ => ⟨zI j, rfl⟩⟩
theorem k_word (hF : qFx S R) (hS : qSt M) {p len : Nat} (h0 : 0 < len) (hpe : p + len ≤ 300) {b : Nat → Nat} (hb : ∀ j, j < len → M 304 (p + j) = b j ∧ 65 ≤ b j ∧ b j ≤ 122) :
    zcal zPP (d + 5) 147 [zA 304, zI p, zI ((p + len : Nat) : Int)] (n, s, S, R, M) = some (zI (if len < 7 then qfi (qpk b len) qwords 0 else 44 : Nat), (n, s, S, R, M)) := by
  have hz : zw32 (((p + len : Nat) : Int) - p) = (len : Int) := by unfold zw32; omega
  rw [c_Sign_word]
  by_cases hl : len < 7
  · have L : ∀ (m w : Nat) (g : zV), w + m = 27 → zR zPP (d + 4) 147 20 [zA 304, zI p, zI ((p + len : Nat) : Int), zI len, zI w, g] [] (n, s, S, R, M) = some (zI (qfi (qpk b len) (qwords.drop w) w : Nat), (n, s, S, R, M)) := by
      intro m
      induction m with
      | zero =>
        intro w g hw
        have hw27 : w = 27 := by omega
        subst hw27
        rw [e_Sign_word_20, if_neg (by decide)]
        rfl
      | succ m ih =>
        intro w g hw
        have hw27 : w < 27 := by omega
        obtain ⟨k1, k2⟩ := k_like (n := n) (s := s) (d := d) (M := M) (e := p + len) (len := len) hF hS hw27 hl hpe (b := b) (fun j hj => (hb j hj).1) len 0 (Nat.zero_add len) (fun i hi => absurd hi (Nat.not_lt_zero i))
        have hi := qsp_iff hw27 hl h0 (b := b) (fun j hj => (hb j hj).2)
        rw [e_Sign_word_20, if_pos (by omega), qw_drop w hw27]
        by_cases hc : qpk b len = znth 0 qwords w
        · rw [if_pos hc]
          exact k1 (hi.mpr hc)
        · rw [if_neg hc]
          obtain ⟨g', hg⟩ := k2 (fun z => hc (hi.mp z))
          exact hg.trans (ih (w + 1) g' (by omega))
    rw [if_pos hl]
    have hL := L 27 0 zU (by decide)
    simp only [qff hF, hz]
    rw [if_neg (by omega), if_pos (by decide), if_neg (by omega), if_neg (by omega), if_pos (by omega)]
    exact hL
  · rw [if_neg hl]
    simp only [qff hF, hz]
    rw [if_neg (by omega), if_pos (by decide), if_neg (by omega), if_neg (by omega), if_neg (by omega)]
    rfl
theorem k_ofChar (hF : qFx S R) (hS : qSt M) {c : Nat} (hc : c < 256) : zcal zPP (d + 5) 148 [zI c] (n, s, S, R, M) = some (zI (qfi c qmarks 29 : Nat), (n, s, S, R, M)) := by
  obtain ⟨-, -, -, h7, -, h5⟩ := hS
  have e3 : ∀ d', zcal zPP (d' + 1) 3 [zA 5] (n, s, S, R, M) = some (zI 1, (n, s, S, R, M)) := fun d' => by
    rw [c_String_isLatin1]
    simp (disch := omega) only [h5, qff hF, qltT, qltF, qleT, qleF, qeqT, qeqF, Int.reduceEq, Int.reduceNe, Int.reduceLT, Int.reduceLE, Int.reduceToNat, Int.reduceAdd, Int.reduceSub, Int.reduceMul, Int.reduceNeg, Nat.reduceAdd, Nat.reduceMul, Nat.reduceEqDiff, Nat.reduceLT, Int.cast_ofNat_Int, Int.lt_irrefl, Bool.false_eq_true, ↓reduceIte, ↓reduceDIte, zbI, zbL, zbA, zbV, qrg, qrg2, qnn, qz, zup_at, zup_r, zup_ne, true_and, and_true, true_or, or_true, and_self, or_self, false_or, or_false, false_and, and_false, Int.toNat_natCast, Int.toNat_add, Int.toNat_mul, Int.toNat_zero, Int.toNat_one, qtn, Int.natCast_add, qnat1, qnat0, ne_eq, not_true_eq_false, not_false_eq_true, eq_self, qbool]
  have e8 : zcal zPP (d + 1) 8 [zA 5] (n, s, S, R, M) = some (zI 0, (n, s, S, R, M)) := by
    rw [c_String_coder]
    simp (disch := omega) only [h5, qff hF, qltT, qltF, qleT, qleF, qeqT, qeqF, Int.reduceEq, Int.reduceNe, Int.reduceLT, Int.reduceLE, Int.reduceToNat, Int.reduceAdd, Int.reduceSub, Int.reduceMul, Int.reduceNeg, Nat.reduceAdd, Nat.reduceMul, Nat.reduceEqDiff, Nat.reduceLT, Int.cast_ofNat_Int, Int.lt_irrefl, Bool.false_eq_true, ↓reduceIte, ↓reduceDIte, zbI, zbL, zbA, zbV, qrg, qrg2, qnn, qz, zup_at, zup_r, zup_ne, true_and, and_true, true_or, or_true, and_self, or_self, false_or, or_false, false_and, and_false, Int.toNat_natCast, Int.toNat_add, Int.toNat_mul, Int.toNat_zero, Int.toNat_one, qtn, Int.natCast_add, qnat1, qnat0, ne_eq, not_true_eq_false, not_false_eq_true, eq_self, qbool]
  have hsh : zshr 12 0 = 12 := by decide
  have e7 : zcal zPP (d + 2) 7 [zA 5] (n, s, S, R, M) = some (zI 12, (n, s, S, R, M)) := by
    rw [c_String_length]
    simp (disch := omega) only [e8, hsh, qff hF, qltT, qltF, qleT, qleF, qeqT, qeqF, Int.reduceEq, Int.reduceNe, Int.reduceLT, Int.reduceLE, Int.reduceToNat, Int.reduceAdd, Int.reduceSub, Int.reduceMul, Int.reduceNeg, Nat.reduceAdd, Nat.reduceMul, Nat.reduceEqDiff, Nat.reduceLT, Int.cast_ofNat_Int, Int.lt_irrefl, Bool.false_eq_true, ↓reduceIte, ↓reduceDIte, zbI, zbL, zbA, zbV, qrg, qrg2, qnn, qz, zup_at, zup_r, zup_ne, true_and, and_true, true_or, or_true, and_self, or_self, false_or, or_false, false_and, and_false, Int.toNat_natCast, Int.toNat_add, Int.toNat_mul, Int.toNat_zero, Int.toNat_one, qtn, Int.natCast_add, qnat1, qnat0, ne_eq, not_true_eq_false, not_false_eq_true, eq_self, qbool]
    rw [if_pos (by decide)]
  have e11 : zcal zPP (d + 1) 11 [zI c] (n, s, S, R, M) = some (zI 1, (n, s, S, R, M)) := by
    rw [c_StringLatin1_canEncode, if_neg (by omega), if_neg (by omega)]
  have hcc : ∀ k, k < 12 → ((znth 0 zb1 k = ((c : Int) + 128) % 256 - 128) ↔ c = znth 0 qmarks k) := fun k hk => by
    have := qmk_v k hk
    rw [this.1]
    have h2 := this.2
    generalize znth 0 qmarks k = v at *
    omega
  have L : ∀ (m k : Nat), k + m = 12 → zR zPP d 12 5 [zA 7, zI c, zI 0, zI 12, zI (((c : Int) + 128) % 256 - 128), zI k] [] (n, s, S, R, M) = some (zI (if qfi c (qmarks.drop k) (29 + k) = 44 then -1 else ((qfi c (qmarks.drop k) (29 + k) : Nat) : Int) - 29), (n, s, S, R, M)) := by
    intro m
    induction m with
    | zero =>
      intro k hk
      have : k = 12 := by omega
      subst this
      rw [e_StringLatin1_indexOfChar_5, if_neg (by decide)]
      rfl
    | succ m ih =>
      intro k hk
      have hk12 : k < 12 := by omega
      rw [e_StringLatin1_indexOfChar_5, if_pos (by omega), qm_drop k hk12]
      simp only [qff hF, Int.toNat_natCast, h7]
      rw [if_pos (And.intro (by simp) (by omega))]
      by_cases hx : c = znth 0 qmarks k
      · rw [if_pos ((hcc k hk12).mpr hx), if_pos hx, if_neg (by omega)]
        have : (k : Int) = ((29 + k : Nat) : Int) - 29 := by omega
        rw [← this]
      · rw [if_neg (fun z => hx ((hcc k hk12).mp z)), if_neg hx, qw1 (show k < 100000 by omega)]
        exact ih (k + 1) (by omega)
  have e12 : zcal zPP (d + 1) 12 [zA 7, zI c, zI 0, zI 12] (n, s, S, R, M) = some (zI (if qfi c qmarks 29 = 44 then -1 else ((qfi c qmarks 29 : Nat) : Int) - 29), (n, s, S, R, M)) := by
    rw [c_StringLatin1_indexOfChar]
    exact L 12 0 (by decide)
  have e10 : zcal zPP (d + 2) 10 [zA 7, zI c, zI 0, zI 12] (n, s, S, R, M) = some (zI (if qfi c qmarks 29 = 44 then -1 else ((qfi c qmarks 29 : Nat) : Int) - 29), (n, s, S, R, M)) := by
    have hm1 : max (0 : Int) 0 = 0 := by decide
    have hm2 : min (12 : Int) ((12 : Nat) : Int) = 12 := by decide
    rw [c_StringLatin1_indexOf, e11]
    simp only [zbI, qff hF, hm1, hm2]
    rw [if_neg (by decide), if_pos (by decide), if_pos (by decide), e12]
  have e6 : zcal zPP (d + 3) 6 [zA 5, zI c, zI 0] (n, s, S, R, M) = some (zI (if qfi c qmarks 29 = 44 then -1 else ((qfi c qmarks 29 : Nat) : Int) - 29), (n, s, S, R, M)) := by
    rw [c_String_indexOf2]
    simp (disch := omega) only [e3, e7, e10, qff hF, qltT, qltF, qleT, qleF, qeqT, qeqF, Int.reduceEq, Int.reduceNe, Int.reduceLT, Int.reduceLE, Int.reduceToNat, Int.reduceAdd, Int.reduceSub, Int.reduceMul, Int.reduceNeg, Nat.reduceAdd, Nat.reduceMul, Nat.reduceEqDiff, Nat.reduceLT, Int.cast_ofNat_Int, Int.lt_irrefl, Bool.false_eq_true, ↓reduceIte, ↓reduceDIte, zbI, zbL, zbA, zbV, qrg, qrg2, qnn, qz, zup_at, zup_r, zup_ne, true_and, and_true, true_or, or_true, and_self, or_self, false_or, or_false, false_and, and_false, Int.toNat_natCast, Int.toNat_add, Int.toNat_mul, Int.toNat_zero, Int.toNat_one, qtn, Int.natCast_add, qnat1, qnat0, ne_eq, not_true_eq_false, not_false_eq_true, eq_self, qbool]
  have e5 : zcal zPP (d + 4) 5 [zA 5, zI c] (n, s, S, R, M) = some (zI (if qfi c qmarks 29 = 44 then -1 else ((qfi c qmarks 29 : Nat) : Int) - 29), (n, s, S, R, M)) := by
    rw [c_String_indexOf]
    simp only [qff hF, if_true]
    rw [e6]
    rfl
  have hge : ∀ (l : List Nat) (k : Nat), k ≤ 44 → k + l.length ≤ 44 → k ≤ qfi c l k ∧ qfi c l k ≤ 44 := by
    intro l
    induction l with
    | nil => intro k h _; exact ⟨h, Nat.le_refl _⟩
    | cons x l ih =>
      intro k h h2
      have h2 : k + (l.length + 1) ≤ 44 := h2
      show k ≤ (if c = x then k else qfi c l (k + 1)) ∧ (if c = x then k else qfi c l (k + 1)) ≤ 44
      by_cases hx : c = x
      · rw [if_pos hx]; exact ⟨Nat.le_refl _, h⟩
      · rw [if_neg hx]
        have := ih (k + 1) (by omega) (by omega)
        omega
  have hr := hge qmarks 29 (by decide) (by decide)
  rw [c_Sign_ofCharacter, e5]
  simp only [zbI]
  generalize qfi c qmarks 29 = v at *
  by_cases hv : v = 44
  · rw [if_pos hv, if_pos (by decide), hv]
    rfl
  · rw [if_neg hv, if_neg (by omega)]
    have : zw32 (29 + (((v : Nat) : Int) - 29)) = v := by unfold zw32; omega
    rw [this]
end QF
