/-! TOKENS: what they are, and the class's row of them -/
def yrun (P : Nat → Bool) (B : Nat → Nat) (len : Nat) : Nat → Nat → Nat
  | 0, p => p
  | f + 1, p => if p < len ∧ P (B p) = true then yrun P B len f (p + 1) else p
/-- the end of a run -/
def yend (P : Nat → Bool) (B : Nat → Nat) (len p : Nat) : Nat := yrun P B len (len - p) p
theorem yend_go {P : Nat → Bool} {B : Nat → Nat} {len p : Nat} (h : p < len) (hP : P (B p) = true) : yend P B len p = yend P B len (p + 1) := by
  unfold yend
  have e : len - p = (len - (p + 1)) + 1 := by omega
  rw [e]
  show (if p < len ∧ P (B p) = true then _ else p) = _
  rw [if_pos ⟨h, hP⟩]
theorem yend_no {P : Nat → Bool} {B : Nat → Nat} {len p : Nat} (h : ¬ (p < len ∧ P (B p) = true)) : yend P B len p = p := by
  unfold yend
  cases len - p with
  | zero => rfl
  | succ f =>
    show (if p < len ∧ P (B p) = true then _ else p) = _
    rw [if_neg h]
theorem yend_in {P : Nat → Bool} {B : Nat → Nat} {len : Nat} : ∀ (m p : Nat), len - p = m → p ≤ yend P B len p ∧ (p ≤ len → yend P B len p ≤ len) ∧ (∀ j, p ≤ j → j < yend P B len p → j < len ∧ P (B j) = true) ∧ ¬ (yend P B len p < len ∧ P (B (yend P B len p)) = true)
  | 0, p, hm => by
    have h : ¬ (p < len ∧ P (B p) = true) := fun z => by omega
    rw [yend_no h]
    exact ⟨Nat.le_refl _, fun z => z, fun j h1 h2 => by omega, h⟩
  | m + 1, p, hm => by
    by_cases h : p < len ∧ P (B p) = true
    · have ih := yend_in (P := P) (B := B) (len := len) m (p + 1) (by omega)
      rw [yend_go h.1 h.2]
      refine ⟨by omega, fun _ => ih.2.1 (by omega), fun j h1 h2 => ?_, ih.2.2.2⟩
      by_cases hj : j = p
      · subst hj; exact h
      · exact ih.2.2.1 j (by omega) h2
    · rw [yend_no h]
      exact ⟨Nat.le_refl _, fun z => z, fun j h1 h2 => by omega, h⟩
def yblk (c : Nat) : Bool := decide (c = 32) || decide (c = 10)
/-- the first byte of the token behind p -/
def yP (B : Nat → Nat) (len p : Nat) : Nat := yend yblk B len p
def ywide (B : Nat → Nat) (len q : Nat) : Bool := (decide (B q = 60) || decide (B q = 62)) && (decide (q + 1 < len) && decide (B (q + 1) = 61))
/-- the end of a token that begins at q -/
def yE0 (B : Nat → Nat) (len q : Nat) : Nat := if q < len then (if qisL (B q) = true then yend qisL B len q else if qisD (B q) = true then yend qisD B len q else if ywide B len q = true then q + 2 else q + 1) else q
def ymn (B : Nat → Nat) (q : Nat) : Nat → Nat
  | 0 => 0
  | k + 1 => min 10000 (ymn B q k * 10 + (B (q + k) - 48))
def ynu (B : Nat → Nat) (q : Nat) : Nat → Nat
  | 0 => 0
  | k + 1 => if 99999 < ynu B q k then ynu B q k else 10 * ynu B q k + (B (q + k) - 48)
def ypm (B : Nat → Nat) (q : Nat) : Nat → Nat
  | 0 => 0
  | k + 1 => if ypm B q k / 281474976710656 ≠ 0 then 1152921504606846976 else ypm B q k * 256 + B (q + k)
def ysg0 (B : Nat → Nat) (len q : Nat) : Nat := if q < len then (if qisL (B q) = true then (if yend qisL B len q - q < 7 then qfi (qpk (fun j => B (q + j)) (yend qisL B len q - q)) qwords 0 else 44) else if qisD (B q) = true then 41 else if ywide B len q = true then qfi (B q) qmarks 29 - 2 else qfi (B q) qmarks 29) else 43
def ywo0 (B : Nat → Nat) (len q : Nat) : Nat := if q < len ∧ qisD (B q) = true ∧ qisL (B q) = false then ymn B q (yend qisD B len q - q) else 0
def ypos (B : Nat → Nat) (len : Nat) : Nat → Nat
  | 0 => 0
  | i + 1 => yE0 B len (yP B len (ypos B len i))
def ypl (B : Nat → Nat) (len i : Nat) : Nat := yP B len (ypos B len i)
def ysg (B : Nat → Nat) (len i : Nat) : Nat := ysg0 B len (ypl B len i)
def ywo (B : Nat → Nat) (len i : Nat) : Nat := ywo0 B len (ypl B len i)
theorem ymn_nu {B : Nat → Nat} {q : Nat} : ∀ k, ymn B q k = min 10000 (ynu B q k)
  | 0 => rfl
  | k + 1 => by
    have ih := ymn_nu (B := B) (q := q) k
    show min 10000 (ymn B q k * 10 + (B (q + k) - 48)) = min 10000 (if 99999 < ynu B q k then ynu B q k else 10 * ynu B q k + (B (q + k) - 48))
    rw [ih]
    by_cases h : 99999 < ynu B q k
    · rw [if_pos h]; omega
    · rw [if_neg h]; omega
/-- the class's rows of tokens hold the first i -/
def yTk (B : Nat → Nat) (len : Nat) (M : Nat → Nat → Int) (i : Nat) : Prop := ∀ k, k < i → M 296 k = ysg B len k ∧ M 297 k = ywo B len k ∧ M 298 k = ypl B len k
section QF
variable {S : Nat → Nat × Nat} {R : Nat → Nat → Nat} {M M' M0 M1 M2 M3 : Nat → Nat → Int} {n s d r : Nat} {B : Nat → Nat} {len : Nat}
def yad (M : Nat → Nat → Int) (i : Nat) (sg wo pl : Int) : Nat → Nat → Int := zup (zup (zup (zup M 296 i sg) 297 i wo) 298 i pl) 295 7 ((i + 1 : Nat) : Int)
theorem kx_add (hF : qFx S R) {i : Nat} (h7 : M 295 7 = i) (hi : i ≤ 300) (sg wo pl : Int) : zcal zPP (d + 1) 115 [zA 295, zI sg, zI wo, zI pl] (n, s, S, R, M) = some (zU, (n, s, S, R, yad M i sg wo pl)) := by
  have h1 : zup (zup (zup M 296 i sg) 297 i wo) 298 i pl 295 7 = i := by rw [zup_rw (by decide), zup_rw (by decide), zup_rw (by decide)]; exact h7
  have h2 : zup M 296 i sg 295 7 = i := by rw [zup_rw (by decide)]; exact h7
  have h3 : zup (zup M 296 i sg) 297 i wo 295 7 = i := by rw [zup_rw (by decide), zup_rw (by decide)]; exact h7
  have i1 : 0 ≤ (i : Int) ∧ (i : Int) < ((301 : Nat) : Int) := by omega
  rw [c_Reader_add]
  simp only [qff hF, if_true, h7, h1, h2, h3, Int.toNat_natCast, true_or, true_and, if_pos i1, qw1 (k := i) (by omega)]
  rw [if_neg (by omega), if_neg (by omega)]
  rfl
theorem yTk_ad {i : Nat} (hi : yTk B len M i) : yTk B len (yad M i (ysg B len i : Nat) (ywo B len i : Nat) (ypl B len i : Nat)) (i + 1) := fun k hk => by
  unfold yad
  by_cases hki : k = i
  · subst hki
    refine ⟨?_, ?_, ?_⟩
    · rw [zup_rw (by decide), zup_rw (by decide), zup_rw (by decide), zup_at]
    · rw [zup_rw (by decide), zup_rw (by decide), zup_at]
    · rw [zup_rw (by decide), zup_at]
  · obtain ⟨a, b, c⟩ := hi k (by omega)
    refine ⟨?_, ?_, ?_⟩
    · rw [zup_rw (by decide), zup_rw (by decide), zup_rw (by decide), zup_ne hki]; exact a
    · rw [zup_rw (by decide), zup_rw (by decide), zup_ne hki, zup_rw (by decide)]; exact b
    · rw [zup_rw (by decide), zup_ne hki, zup_rw (by decide), zup_rw (by decide)]; exact c
theorem kx_isL {c : Nat} (σ : zS) : zcal zPP (d + 1) 114 [zI c] σ = some (zI (if qisL c = true then 1 else 0), σ) := by
  have e : ∀ b : Bool, b = qisL c → (if qisL c = true then (1 : Int) else 0) = if b = true then 1 else 0 := fun b h => by rw [h]
  rw [c_Reader_isLetter]
  unfold qisL
  by_cases h1 : 97 ≤ c
  · rw [if_neg (by omega)]
    by_cases h2 : c ≤ 122
    · rw [if_neg (by omega), decide_eq_true h1, decide_eq_true h2]
      simp
    · rw [if_pos (by omega), if_neg (by omega), if_pos (by omega), decide_eq_false h2, decide_eq_false (show ¬ c ≤ 90 by omega)]
      simp
  · rw [if_pos (by omega), decide_eq_false h1]
    by_cases h2 : 65 ≤ c
    · rw [if_neg (by omega), decide_eq_true h2]
      by_cases h3 : c ≤ 90
      · rw [if_neg (by omega), decide_eq_true h3]
        simp
      · rw [if_pos (by omega), decide_eq_false h3]
        simp
    · rw [if_pos (by omega), decide_eq_false h2]
      simp
theorem kx_isD {c : Nat} (σ : zS) : zcal zPP (d + 1) 116 [zI c] σ = some (zI (if qisD c = true then 1 else 0), σ) := by
  rw [c_Reader_isDigit]
  unfold qisD
  by_cases h1 : 48 ≤ c
  · rw [if_neg (by omega), decide_eq_true h1]
    by_cases h2 : c ≤ 57
    · rw [if_neg (by omega), decide_eq_true h2]
      simp
    · rw [if_pos (by omega), decide_eq_false h2]
      simp
  · rw [if_pos (by omega), decide_eq_false h1]
    simp
/-- one token of the class -/
theorem kx_tok (hF : qFx S R) (hS : qSt M) (hB : ∀ k, k < len → M 304 k = B k ∧ B k < 256) (hl : len ≤ 300) {p i : Nat} (hp : p < len) (hb : yblk (B p) = false) (h7 : M 295 7 = i) (hi : i ≤ 300) {nn : Nat} (hn : nn < 300) (L : Int) (g6 g7 g8 : zV) :
    ∃ g6' g7' g8', zR zPP (d + 5) 113 14 [zA 295, zA 304, zI L, zI len, zI p, zI nn, g6, g7, g8] [] (n, s, S, R, M) = zR zPP (d + 5) 113 14 [zA 295, zA 304, zI L, zI len, zI (yE0 B len p : Nat), zI ((nn + 1 : Nat) : Int), g6', g7', g8'] [] (n, s, S, R, yad M i (ysg0 B len p : Nat) (ywo0 B len p : Nat) p) := by
  obtain ⟨b1, b2⟩ := hB p hp
  have h32 : ¬ B p = 32 := fun z => by rw [z] at hb; cases hb
  have h10 : ¬ B p = 10 := fun z => by rw [z] at hb; cases hb
  have hpi : 0 ≤ (p : Int) ∧ (p : Int) < ((300 : Nat) : Int) := by omega
  have hnn : zw32 ((nn : Int) + 1) = ((nn + 1 : Nat) : Int) := qw1 (by omega)
  have hhead : zR zPP (d + 5) 113 14 [zA 295, zA 304, zI L, zI len, zI p, zI nn, g6, g7, g8] [] (n, s, S, R, M) = if qisL (B p) = true then zR zPP (d + 5) 113 39 [zA 295, zA 304, zI L, zI len, zI p, zI nn, zI (B p), zI ((p + 1 : Nat) : Int), g8] [] (n, s, S, R, M) else if qisD (B p) = true then zR zPP (d + 5) 113 67 [zA 295, zA 304, zI L, zI len, zI p, zI nn, zI (B p), zI 0, zI p] [] (n, s, S, R, M) else if B p = 60 ∨ B p = 62 then zR zPP (d + 5) 113 103 [zA 295, zA 304, zI L, zI len, zI p, zI nn, zI (B p), g7, g8] [] (n, s, S, R, M) else zR zPP (d + 5) 113 117 [zA 295, zA 304, zI L, zI len, zI p, zI nn, zI (B p), g7, g8] [] (n, s, S, R, M) := by
    clear hnn
    rw [e_Reader_split_14, if_pos (by omega), if_pos (by omega)]
    simp only [qff hF, true_or, or_true, true_and, if_pos hpi, Int.toNat_natCast, b1]
    rw [if_neg (show ¬ ((B p : Nat) : Int) = 32 by omega), if_neg (show ¬ ((B p : Nat) : Int) = 10 by omega), kx_isL]
    simp only [zbI]
    by_cases hL : qisL (B p) = true
    · rw [if_pos hL, if_pos hL, if_neg (by decide), qw1 (show p < 100000 by omega)]
    · rw [if_neg hL, if_neg hL, if_pos rfl, kx_isD]
      simp only []
      by_cases hD : qisD (B p) = true
      · rw [if_pos hD, if_pos hD, if_neg (by decide)]
      · rw [if_neg hD, if_neg hD, if_pos rfl]
        by_cases h60 : B p = 60
        · rw [if_pos (by omega), if_pos (by omega)]
        · rw [if_neg (by omega)]
          by_cases h62 : B p = 62
          · rw [if_pos (by omega), if_pos (by omega)]
          · rw [if_neg (by omega), if_neg (by omega)]
  have e143 : ∀ (q : Nat) (c : Int) (h7 h8 : zV) (M3 : Nat → Nat → Int), zR zPP (d + 5) 113 143 [zA 295, zA 304, zI L, zI len, zI q, zI nn, zI c, h7, h8] [] (n, s, S, R, M3) = zR zPP (d + 5) 113 14 [zA 295, zA 304, zI L, zI len, zI q, zI ((nn + 1 : Nat) : Int), zI c, h7, h8] [] (n, s, S, R, M3) := fun q c h7 h8 M3 => by
    rw [e_Reader_split_143, hnn]
  clear hnn
  rw [hhead]
  by_cases hL : qisL (B p) = true
  · rw [if_pos hL]
    have he := yend_in (P := qisL) (B := B) (len := len) (len - p) p rfl
    have eE : yE0 B len p = yend qisL B len p := by unfold yE0; rw [if_pos hp, if_pos hL]
    have eG : ysg0 B len p = if yend qisL B len p - p < 7 then qfi (qpk (fun j => B (p + j)) (yend qisL B len p - p)) qwords 0 else 44 := by unfold ysg0; rw [if_pos hp, if_pos hL]
    have eW : ywo0 B len p = 0 := by unfold ywo0; rw [if_neg (fun z => by rw [hL] at z; exact absurd z.2.2 (by decide))]
    have hgo := yend_go (P := qisL) (B := B) hp hL
    rw [hgo] at he
    have LOOP : ∀ (m q : Nat), yend qisL B len (p + 1) = q + m → q ≤ len → yend qisL B len q = yend qisL B len (p + 1) → zR zPP (d + 5) 113 39 [zA 295, zA 304, zI L, zI len, zI p, zI nn, zI (B p), zI q, g8] [] (n, s, S, R, M) = zR zPP (d + 5) 113 49 [zA 295, zA 304, zI L, zI len, zI p, zI nn, zI (B p), zI (yend qisL B len (p + 1) : Nat), g8] [] (n, s, S, R, M) := by
      intro m
      induction m with
      | zero =>
        intro q hq hql hqe
        have hq' : yend qisL B len (p + 1) = q := hq
        rw [hq'] at hqe ⊢
        have hno := (yend_in (P := qisL) (B := B) (len := len) (len - q) q rfl).2.2.2
        rw [hqe] at hno
        rw [e_Reader_split_39]
        by_cases hqq : q < len
        · have hqL : ¬ qisL (B q) = true := fun z => hno ⟨hqq, z⟩
          have hqi : 0 ≤ (q : Int) ∧ (q : Int) < ((300 : Nat) : Int) := by omega
          rw [if_pos (by omega)]
          simp only [qff hF, true_or, or_true, true_and, if_pos hqi, Int.toNat_natCast, (hB q hqq).1]
          rw [kx_isL, if_neg hqL]
          rfl
        · rw [if_neg (by omega)]
      | succ m ih =>
        intro q hq hql hqe
        have hqlt : q < len := by have := he.2.1 (by omega); omega
        have hqL : qisL (B q) = true := by
          apply Classical.byContradiction
          intro z
          rw [yend_no (fun h => z h.2)] at hqe
          omega
        have hqi : 0 ≤ (q : Int) ∧ (q : Int) < ((300 : Nat) : Int) := by omega
        rw [e_Reader_split_39, if_pos (by omega)]
        simp only [qff hF, true_or, or_true, true_and, if_pos hqi, Int.toNat_natCast, (hB q hqlt).1]
        rw [kx_isL, if_pos hqL]
        simp only [zbI]
        rw [if_neg (by decide), qw1 (show q < 100000 by omega)]
        exact ih (q + 1) (by omega) (by omega) (by rw [← hqe, yend_go hqlt hqL])
    have hel := he.2.1 (by omega)
    have hep : p + 1 ≤ yend qisL B len (p + 1) := (yend_in (P := qisL) (B := B) (len := len) (len - (p + 1)) (p + 1) rfl).1
    have hall := he.2.2.1
    rw [LOOP (yend qisL B len (p + 1) - (p + 1)) (p + 1) (by omega) (by omega) rfl]
    rw [eE, eG, eW, hgo]
    generalize yend qisL B len (p + 1) = e at *
    obtain ⟨k, rfl⟩ : ∃ k, e = p + k := ⟨e - p, by omega⟩
    have hwd := k_word (n := n) (s := s) (d := d) (M := M) hF hS (p := p) (len := k) (by omega) (by omega) (b := fun j => B (p + j)) (fun j hj => by
      obtain ⟨q1, q2⟩ := hall (p + j) (by omega) (by omega)
      exact ⟨(hB (p + j) q1).1, qisL_in q2⟩)
    have had := fun sg => kx_add (n := n) (s := s) (d := d + 4) (M := M) hF h7 hi sg 0 (p : Int)
    refine ⟨zI (B p), zI ((p + k : Nat) : Int), g8, ?_⟩
    rw [e_Reader_split_49, hwd]
    simp only [zbI]
    rw [had]
    simp only [zbV]
    rw [e143, Nat.add_sub_cancel_left]
    rfl
  rw [if_neg hL]
  by_cases hD : qisD (B p) = true
  · rw [if_pos hD]
    have he := yend_in (P := qisD) (B := B) (len := len) (len - p) p rfl
    have eE : yE0 B len p = yend qisD B len p := by unfold yE0; rw [if_pos hp, if_neg hL, if_pos hD]
    have eG : ysg0 B len p = 41 := by unfold ysg0; rw [if_pos hp, if_neg hL, if_pos hD]
    have eW : ywo0 B len p = ymn B p (yend qisD B len p - p) := by unfold ywo0; rw [if_pos ⟨hp, hD, by simpa using hL⟩]
    have hel := he.2.1 (by omega)
    have hmn : ∀ k, ymn B p k ≤ 10000 := fun k => by rw [ymn_nu]; exact Nat.min_le_left _ _
    have LOOP : ∀ (m q : Nat), yend qisD B len p = q + m → p ≤ q → q ≤ len → yend qisD B len q = yend qisD B len p → zR zPP (d + 5) 113 67 [zA 295, zA 304, zI L, zI len, zI p, zI nn, zI (B p), zI (ymn B p (q - p) : Nat), zI q] [] (n, s, S, R, M) = zR zPP (d + 5) 113 89 [zA 295, zA 304, zI L, zI len, zI p, zI nn, zI (B p), zI (ymn B p (yend qisD B len p - p) : Nat), zI (yend qisD B len p : Nat)] [] (n, s, S, R, M) := by
      intro m
      induction m with
      | zero =>
        intro q hq hpq hql hqe
        have hq' : yend qisD B len p = q := hq
        rw [hq'] at hqe ⊢
        have hno := (yend_in (P := qisD) (B := B) (len := len) (len - q) q rfl).2.2.2
        rw [hqe] at hno
        rw [e_Reader_split_67]
        by_cases hqq : q < len
        · have hqL : ¬ qisD (B q) = true := fun z => hno ⟨hqq, z⟩
          have hqi : 0 ≤ (q : Int) ∧ (q : Int) < ((300 : Nat) : Int) := by omega
          rw [if_pos (by omega)]
          simp only [qff hF, true_or, or_true, true_and, if_pos hqi, Int.toNat_natCast, (hB q hqq).1]
          rw [kx_isD, if_neg hqL]
          rfl
        · rw [if_neg (by omega)]
      | succ m ih =>
        intro q hq hpq hql hqe
        have hqlt : q < len := by omega
        have hqL : qisD (B q) = true := by
          apply Classical.byContradiction
          intro z
          rw [yend_no (fun h => z h.2)] at hqe
          omega
        have hqi : 0 ≤ (q : Int) ∧ (q : Int) < ((300 : Nat) : Int) := by omega
        have hd48 : 48 ≤ B q ∧ B q ≤ 57 := by
          unfold qisD at hqL
          simp at hqL
          exact hqL
        have hstep : min 10000 (zw32 (zw32 (zw32 (((ymn B p (q - p) : Nat) : Int) * 10) + (B q : Nat)) - 48)) = ((ymn B p (q + 1 - p) : Nat) : Int) := by
          have e1 : q + 1 - p = (q - p) + 1 := by omega
          have e2 : p + (q - p) = q := by omega
          rw [e1]
          show _ = ((min 10000 (ymn B p (q - p) * 10 + (B (p + (q - p)) - 48)) : Nat) : Int)
          rw [e2]
          have := hmn (q - p)
          generalize ymn B p (q - p) = v at *
          rw [qz (x := (v : Int) * 10) (by omega) (by omega), qz (x := (v : Int) * 10 + (B q : Nat)) (by omega) (by omega), qz (x := (v : Int) * 10 + (B q : Nat) - 48) (by omega) (by omega)]
          omega
        rw [e_Reader_split_67, if_pos (by omega)]
        simp only [qff hF, true_or, or_true, true_and, if_pos hqi, Int.toNat_natCast, (hB q hqlt).1]
        rw [kx_isD, if_pos hqL]
        simp only [zbI, qff hF, true_or, or_true, true_and, if_pos hqi, Int.toNat_natCast, (hB q hqlt).1]
        rw [if_neg (by decide), hstep, qw1 (show q < 100000 by omega)]
        exact ih (q + 1) (by omega) (by omega) (by omega) (by rw [← hqe, yend_go hqlt hqL])
    have hL0 := LOOP (yend qisD B len p - p) p (by omega) (Nat.le_refl _) (by omega) rfl
    rw [Nat.sub_self] at hL0
    have had := fun wo => kx_add (n := n) (s := s) (d := d + 4) (M := M) hF h7 hi 41 wo (p : Int)
    refine ⟨zI (B p), zI (ymn B p (yend qisD B len p - p) : Nat), zI (yend qisD B len p : Nat), Eq.trans hL0 ?_⟩
    rw [eE, eG, eW, e_Reader_split_89, had]
    simp only [zbV]
    rw [e143]
    rfl
  rw [if_neg hD]
  have eW : ywo0 B len p = 0 := by unfold ywo0; rw [if_neg (fun z => hD z.2.1)]
  have hof := k_ofChar (n := n) (s := s) (d := d) (M := M) hF hS b2
  have had := fun sg => kx_add (n := n) (s := s) (d := d + 4) (M := M) hF h7 hi sg 0 (p : Int)
  have e117 : ywide B len p = false → zR zPP (d + 5) 113 117 [zA 295, zA 304, zI L, zI len, zI p, zI nn, zI (B p), g7, g8] [] (n, s, S, R, M) = zR zPP (d + 5) 113 14 [zA 295, zA 304, zI L, zI len, zI (yE0 B len p : Nat), zI ((nn + 1 : Nat) : Int), zI (B p), zI 0, zI (qfi (B p) qmarks 29 : Nat)] [] (n, s, S, R, yad M i (ysg0 B len p : Nat) (ywo0 B len p : Nat) p) := fun hw => by
    have eE : yE0 B len p = p + 1 := by unfold yE0; rw [if_pos hp, if_neg hL, if_neg hD, if_neg (by rw [hw]; decide)]
    have eG : ysg0 B len p = qfi (B p) qmarks 29 := by unfold ysg0; rw [if_pos hp, if_neg hL, if_neg hD, if_neg (by rw [hw]; decide)]
    rw [eE, eG, eW, e_Reader_split_117, e_Reader_split_118, hof]
    simp only [zbI]
    rw [if_pos (by trivial), e_Reader_split_132, had]
    simp only [zbV]
    rw [if_pos (by trivial), e_Reader_split_141, qw1 (show p < 100000 by omega), e143]
    rfl
  by_cases h6 : B p = 60 ∨ B p = 62
  · rw [if_pos h6, e_Reader_split_103, qw1 (show p < 100000 by omega)]
    by_cases h1 : p + 1 < len
    · have hpi1 : 0 ≤ ((p + 1 : Nat) : Int) ∧ ((p + 1 : Nat) : Int) < ((300 : Nat) : Int) := by omega
      rw [if_pos (by omega)]
      simp only [qff hF, true_or, or_true, true_and, if_pos hpi1, Int.toNat_natCast, (hB (p + 1) h1).1]
      by_cases h61 : B (p + 1) = 61
      · have hw : ywide B len p = true := by
          unfold ywide
          rw [decide_eq_true h1, decide_eq_true h61]
          rcases h6 with h | h
          · rw [decide_eq_true h]; rfl
          · rw [decide_eq_true h]; simp
        have eE : yE0 B len p = p + 2 := by unfold yE0; rw [if_pos hp, if_neg hL, if_neg hD, if_pos hw]
        have eG : ysg0 B len p = qfi (B p) qmarks 29 - 2 := by unfold ysg0; rw [if_pos hp, if_neg hL, if_neg hD, if_pos hw]
        have hg : qfi (B p) qmarks 29 = 29 ∨ qfi (B p) qmarks 29 = 30 := by
          rcases h6 with h | h
          · rw [h]; exact Or.inl rfl
          · rw [h]; exact Or.inr rfl
        rw [if_pos (by omega)]
        refine ⟨zI (B p), zI 1, zI (qfi (B p) qmarks 29 : Nat), ?_⟩
        rw [eE, eG, eW, e_Reader_split_118, hof]
        simp only [zbI]
        generalize qfi (B p) qmarks 29 = v at *
        have hv : zw32 (zw32 ((v : Int) - 29) + 27) = ((v - 2 : Nat) : Int) := by
          rcases hg with h | h
          · subst h; decide
          · subst h; decide
        have hp2 : zw32 ((p : Int) + 2) = ((p + 2 : Nat) : Int) := by unfold zw32; omega
        rw [if_neg (by decide), e_Reader_split_132, hv, had]
        simp only [zbV]
        rw [if_neg (by decide), e_Reader_split_141, hp2, e143]
        rfl
      · have hw : ywide B len p = false := by
          unfold ywide
          rw [decide_eq_false h61, Bool.and_false, Bool.and_false]
        rw [if_neg (by omega)]
        exact ⟨_, _, _, e117 hw⟩
    · have hw : ywide B len p = false := by
        unfold ywide
        rw [decide_eq_false h1, Bool.false_and, Bool.and_false]
      rw [if_neg (by omega)]
      exact ⟨_, _, _, e117 hw⟩
  · have hw : ywide B len p = false := by
      unfold ywide
      rw [decide_eq_false (fun h => h6 (Or.inl h)), decide_eq_false (fun h => h6 (Or.inr h))]
      rfl
    rw [if_neg h6]
    exact ⟨_, _, _, e117 hw⟩
theorem yE0_in {q : Nat} (hq : q < len) : q < yE0 B len q ∧ yE0 B len q ≤ len := by
  unfold yE0
  rw [if_pos hq]
  by_cases hL : qisL (B q) = true
  · rw [if_pos hL]
    have h1 := yend_in (P := qisL) (B := B) (len := len) (len - q) q rfl
    rw [yend_go hq hL] at h1 ⊢
    have h2 := yend_in (P := qisL) (B := B) (len := len) (len - (q + 1)) (q + 1) rfl
    exact ⟨h2.1, h1.2.1 (by omega)⟩
  rw [if_neg hL]
  by_cases hD : qisD (B q) = true
  · rw [if_pos hD]
    have h1 := yend_in (P := qisD) (B := B) (len := len) (len - q) q rfl
    rw [yend_go hq hD] at h1 ⊢
    have h2 := yend_in (P := qisD) (B := B) (len := len) (len - (q + 1)) (q + 1) rfl
    exact ⟨h2.1, h1.2.1 (by omega)⟩
  rw [if_neg hD]
  by_cases hw : ywide B len q = true
  · rw [if_pos hw]
    unfold ywide at hw
    simp at hw
    omega
  · rw [if_neg hw]; omega
theorem kx_split (hF : qFx S R) (hS : qSt M) (hB : ∀ k, k < len → M 304 k = B k ∧ B k < 256) (hl : len ≤ 300) :
    ∃ N M', zcal zPP (d + 6) 113 [zA 295, zA 304, zI len] (n, s, S, R, M) = some (zU, (n, s, S, R, M')) ∧ yTk B len M' (N + 1) ∧ N ≤ len ∧ len ≤ ypl B len N ∧ (∀ k, k < N → ypl B len k < len) ∧ (∀ a, a ≠ 295 → a ≠ 296 → a ≠ 297 → a ≠ 298 → M' a = M a) ∧ ∀ k, k ≠ 7 → M' 295 k = M 295 k := by
  have LOOP : ∀ (m p i nn : Nat) (M1 : Nat → Nat → Int) (g6 g7 g8 : zV), len - p ≤ m → p ≤ len → nn ≤ p → i ≤ p → yP B len p = ypl B len i → yTk B len M1 i → M1 295 7 = i → (∀ k, k < i → ypl B len k < len) → (∀ a, a ≠ 295 → a ≠ 296 → a ≠ 297 → a ≠ 298 → M1 a = M a) → (∀ k, k ≠ 7 → M1 295 k = M 295 k) →
      ∃ N M', zR zPP (d + 5) 113 14 [zA 295, zA 304, zI len, zI len, zI p, zI nn, g6, g7, g8] [] (n, s, S, R, M1) = some (zU, (n, s, S, R, M')) ∧ yTk B len M' (N + 1) ∧ N ≤ len ∧ len ≤ ypl B len N ∧ (∀ k, k < N → ypl B len k < len) ∧ (∀ a, a ≠ 295 → a ≠ 296 → a ≠ 297 → a ≠ 298 → M' a = M a) ∧ ∀ k, k ≠ 7 → M' 295 k = M 295 k := by
    intro m
    induction m with
    | zero =>
      intro p i nn M1 g6 g7 g8 hm hpl hnp hip hyp ht h7 hlt hrow h5
      have hp : p = len := by omega
      subst hp
      have hyl : yP B p p = p := yend_no (fun z => Nat.lt_irrefl _ z.1)
      rw [hyl] at hyp
      have had := kx_add (n := n) (s := s) (d := d + 4) (M := M1) hF h7 (by omega) 43 0 (p : Int)
      have eG : ysg B p i = 43 := by unfold ysg ysg0; rw [← hyp, if_neg (Nat.lt_irrefl _)]
      have eW : ywo B p i = 0 := by unfold ywo ywo0; rw [← hyp, if_neg (fun z => Nat.lt_irrefl _ z.1)]
      have hta := yTk_ad ht
      rw [eG, eW, ← hyp] at hta
      refine ⟨i, _, ?_, hta, hip, by rw [← hyp]; exact Nat.le_refl _, hlt, fun a a1 a2 a3 a4 => ?_, fun k hk => ?_⟩
      · rw [e_Reader_split_14]
        by_cases hn : nn < 300
        · rw [if_pos (by omega), if_neg (by omega), e_Reader_split_145, had]
          rfl
        · rw [if_neg (by omega), e_Reader_split_145, had]
          rfl
      · unfold yad
        rw [zup_rw a1, zup_rw a4, zup_rw a3, zup_rw a2]
        exact hrow a a1 a2 a3 a4
      · unfold yad
        rw [zup_ne hk, zup_rw (by decide), zup_rw (by decide), zup_rw (by decide)]
        exact h5 k hk
    | succ m ih =>
      intro p i nn M1 g6 g7 g8 hm hpl hnp hip hyp ht h7 hlt hrow h5
      by_cases hp : p < len
      · have hS1 : qSt M1 := qSt_x (fun a ha => hrow a (by omega) (by omega) (by omega) (by omega)) hS
        have h304 : M1 304 = M 304 := hrow 304 (by decide) (by decide) (by decide) (by decide)
        have hB1 : ∀ k, k < len → M1 304 k = B k ∧ B k < 256 := fun k hk => by rw [h304]; exact hB k hk
        by_cases hb : yblk (B p) = true
        · have hgo : yP B len p = yP B len (p + 1) := yend_go hp hb
          obtain ⟨N, M', r1, r2⟩ := ih (p + 1) i (nn + 1) M1 (zI (B p)) g7 g8 (by omega) (by omega) (by omega) (by omega) (by rw [← hgo]; exact hyp) ht h7 hlt hrow h5
          refine ⟨N, M', Eq.trans ?_ r1, r2⟩
          have hpi : 0 ≤ (p : Int) ∧ (p : Int) < ((300 : Nat) : Int) := by omega
          have hbb : B p = 32 ∨ B p = 10 := by
            unfold yblk at hb
            simp at hb
            exact hb
          have h30 : zR zPP (d + 5) 113 30 [zA 295, zA 304, zI len, zI len, zI p, zI nn, zI (B p), g7, g8] [] (n, s, S, R, M1) = zR zPP (d + 5) 113 14 [zA 295, zA 304, zI len, zI len, zI ((p + 1 : Nat) : Int), zI ((nn + 1 : Nat) : Int), zI (B p), g7, g8] [] (n, s, S, R, M1) := by
            rw [e_Reader_split_30, qw1 (show p < 100000 by omega), e_Reader_split_143, qw1 (show nn < 100000 by omega)]
          rw [e_Reader_split_14, if_pos (by omega), if_pos (by omega)]
          simp only [qff hF, true_or, or_true, true_and, if_pos hpi, Int.toNat_natCast, (hB1 p hp).1]
          by_cases h32 : B p = 32
          · rw [if_pos (by omega)]
            exact h30
          · rw [if_neg (by omega), if_pos (by omega)]
            exact h30
        · have hb' : yblk (B p) = false := by simpa using hb
          have hno : yP B len p = p := yend_no (fun z => hb z.2)
          rw [hno] at hyp
          have hE := yE0_in (B := B) hp
          have eG : ysg B len i = ysg0 B len p := by unfold ysg; rw [← hyp]
          have eW : ywo B len i = ywo0 B len p := by unfold ywo; rw [← hyp]
          obtain ⟨k6, k7, k8, hk⟩ := kx_tok (n := n) (s := s) (d := d) (M := M1) hF hS1 hB1 hl hp hb' h7 (by omega) (nn := nn) (by omega) (len : Int) g6 g7 g8
          have hta := yTk_ad ht
          rw [eG, eW, ← hyp] at hta
          obtain ⟨N, M', r1, r2⟩ := ih (yE0 B len p) (i + 1) (nn + 1) (yad M1 i (ysg0 B len p : Nat) (ywo0 B len p : Nat) p) k6 k7 k8 (by omega) hE.2 (by omega) (by omega) (by
            show _ = yP B len (yE0 B len (yP B len (ypos B len i)))
            have : yP B len (ypos B len i) = p := hyp.symm
            rw [this]) hta (by unfold yad; rw [zup_at]) (fun k hk => by
            by_cases hki : k = i
            · subst hki; rw [← hyp]; exact hp
            · exact hlt k (by omega)) (fun a a1 a2 a3 a4 => by unfold yad; rw [zup_rw a1, zup_rw a4, zup_rw a3, zup_rw a2]; exact hrow a a1 a2 a3 a4) (fun k hk => by unfold yad; rw [zup_ne hk, zup_rw (by decide), zup_rw (by decide), zup_rw (by decide)]; exact h5 k hk)
          exact ⟨N, M', hk.trans r1, r2⟩
      · exact ih p i nn M1 g6 g7 g8 (by omega) hpl hnp hip hyp ht h7 hlt hrow h5
  have hmin : min (len : Int) (min 300 ((300 : Nat) : Int)) = len := by omega
  obtain ⟨N, M', r1, r2, r3, r4, r5, r6, r7⟩ := LOOP len 0 0 0 (zup M 295 7 0) zU zU zU (by omega) (by omega) (by omega) (by omega) rfl (fun k hk => absurd hk (Nat.not_lt_zero k)) zup_at (fun k hk => absurd hk (Nat.not_lt_zero k)) (fun a a1 _ _ _ => zup_rw a1) (fun k hk => zup_ne hk)
  refine ⟨N, M', ?_, r2, r3, r4, r5, r6, r7⟩
  rw [c_Reader_split]
  simp only [qff hF, if_true, hmin]
  rw [if_pos (by decide)]
  exact r1
end QF
