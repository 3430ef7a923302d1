/-! TOKENS: the model -/
theorem ybv_in {c : Nat} (h : c < 9223372036854775808) : (BitVec.ofNat 64 c).toInt = (c : Int) := by
  have hn : (BitVec.ofNat 64 c).toNat = c := by rw [BitVec.toNat_ofNat]; exact Nat.mod_eq_of_lt (by omega)
  rw [BitVec.toInt_eq_toNat_of_lt (by rw [hn]; omega), hn]
theorem y64_bv (a : Nat) : (Int64.ofInt (a : Int)).toBitVec = BitVec.ofNat 64 a := by
  rw [Int64.toBitVec_ofInt, BitVec.ofInt_natCast]
theorem ylor_nat {a b : Nat} (ha : a < 9223372036854775808) (hb : b < 9223372036854775808) : zlor a b = ((a ||| b : Nat) : Int) := by
  unfold zlor
  show (Int64.ofInt a ||| Int64.ofInt b).toBitVec.toInt = _
  rw [Int64.toBitVec_or, y64_bv, y64_bv, ← BitVec.ofNat_or]
  exact ybv_in (Nat.or_lt_two_pow (n := 63) ha hb)
theorem ylshl8 {v : Nat} (h : v < 36028797018963968) : zlshl v 8 = ((v * 256 : Nat) : Int) := by
  unfold zlshl
  show (Int64.ofInt v <<< ((Int32.ofInt 8).toInt64 &&& 63)).toBitVec.toInt = _
  rw [Int64.toBitVec_shiftLeft]
  have h1 : (((Int32.ofInt 8).toInt64 &&& 63).toBitVec.smod 64) = 8#64 := by decide +kernel
  rw [h1, y64_bv]
  have h2 : BitVec.ofNat 64 v <<< 8#64 = BitVec.ofNat 64 (v * 256) := by
    apply BitVec.eq_of_toNat_eq
    rw [BitVec.shiftLeft_eq', BitVec.toNat_shiftLeft, BitVec.toNat_ofNat, BitVec.toNat_ofNat, Nat.mod_eq_of_lt (a := v) (by omega), Nat.shiftLeft_eq]
    rfl
  rw [h2]
  exact ybv_in (by omega)
theorem ylshr48 {a : Nat} (ha : a < 9223372036854775808) : zlshr a 48 = ((a / 281474976710656 : Nat) : Int) := by
  unfold zlshr
  show (Int64.ofInt a >>> ((Int32.ofInt 48).toInt64 &&& 63)).toBitVec.toInt = _
  rw [Int64.toBitVec_shiftRight]
  have h1 : (((Int32.ofInt 48).toInt64 &&& 63).toBitVec.smod 64).toNat = 48 := by decide +kernel
  show (BitVec.sshiftRight _ (((Int32.ofInt 48).toInt64 &&& 63).toBitVec.smod 64).toNat).toInt = _
  rw [h1, y64_bv]
  have hm : (BitVec.ofNat 64 a).msb = false := by
    rw [BitVec.msb_eq_decide]
    simp
    omega
  rw [BitVec.sshiftRight_eq_of_msb_false hm]
  have h2 : BitVec.ofNat 64 a >>> 48 = BitVec.ofNat 64 (a / 281474976710656) := by
    apply BitVec.eq_of_toNat_eq
    rw [BitVec.toNat_ushiftRight, BitVec.toNat_ofNat, BitVec.toNat_ofNat, Nat.mod_eq_of_lt (by omega), Nat.mod_eq_of_lt (by omega), Nat.shiftRight_eq_div_pow]
  rw [h2]
  exact ybv_in (by omega)
theorem ywb {v b : Nat} (hv : v < 281474976710656) (hb : b < 256) : zlor (zlshl v 8) b = ((v * 256 + b : Nat) : Int) := by
  rw [ylshl8 (by omega), ylor_nat (by omega) (by omega)]
  have h := Nat.shiftLeft_add_eq_or_of_lt (i := 8) (b := b) (by omega) v
  rw [Nat.shiftLeft_eq] at h
  have e : v * 256 = v * 2 ^ 8 := rfl
  rw [e, ← h]
def ytk0 (B : Nat → Nat) (len q : Nat) : Nat := if q < len then (if qisL (B q) = true then 2 else if qisD (B q) = true then 1 else if ywide B len q = true then (if B q = 60 then 4 else 5) else if qfi (B q) qmarks 29 = 44 then 3 else B q) else 0
def ytk (B : Nat → Nat) (len i : Nat) : Nat := ytk0 B len (ypl B len i)
theorem ypos_le {B : Nat → Nat} {len : Nat} : ∀ i, ypos B len i ≤ len
  | 0 => Nat.zero_le _
  | i + 1 => by
    have ih := ypos_le (B := B) (len := len) i
    have h1 := (yend_in (P := yblk) (B := B) (len := len) (len - ypos B len i) (ypos B len i) rfl).2.1 ih
    show yE0 B len (yP B len (ypos B len i)) ≤ len
    by_cases h : yP B len (ypos B len i) < len
    · exact (yE0_in h).2
    · unfold yE0
      rw [if_neg h]
      exact h1
theorem ypl_le {B : Nat → Nat} {len i : Nat} : ypl B len i ≤ len := (yend_in (P := yblk) (B := B) (len := len) (len - ypos B len i) (ypos B len i) rfl).2.1 (ypos_le i)
theorem ypm_in {B : Nat → Nat} {q : Nat} (h : ∀ j, B (q + j) < 256) : ∀ k, ypm B q k ≤ 1152921504606846976
  | 0 => Nat.zero_le _
  | k + 1 => by
    have hk := h k
    show (if ypm B q k / 281474976710656 ≠ 0 then 1152921504606846976 else ypm B q k * 256 + B (q + k)) ≤ _
    split <;> omega
/-- the model's token i is at hand -/
def yNx (B : Nat → Nat) (len : Nat) (M : Nat → Nat → Int) (i : Nat) : Prop :=
  M 305 7 = ypos B len (i + 1) ∧ M 305 8 = ypl B len i ∧ M 305 9 = ytk B len i ∧ (ytk B len i = 1 → M 305 10 = ynu B (ypl B len i) (ypos B len (i + 1) - ypl B len i)) ∧ (ytk B len i = 2 → M 305 11 = ypm B (ypl B len i) (ypos B len (i + 1) - ypl B len i))
section QF
variable {S : Nat → Nat × Nat} {R : Nat → Nat → Nat} {M M' M0 M1 M2 M3 : Nat → Nat → Int} {n s d r : Nat} {B : Nat → Nat} {len : Nat}
/-- the tape of the model -/
def yTa (B : Nat → Nat) (len : Nat) (M : Nat → Nat → Int) : Prop := M 305 4 = len ∧ len ≤ 300 ∧ ∀ k, k < len → M 309 k = B k ∧ B k < 256
/-- a row but the cells of the token -/
def yX (M M' : Nat → Nat → Int) : Prop := (∀ a, a ≠ 305 → M' a = M a) ∧ ∀ k, k ≠ 7 → k ≠ 8 → k ≠ 9 → k ≠ 10 → k ≠ 11 → M' 305 k = M 305 k
theorem yX_t (h1 : yX M M1) (h2 : yX M1 M2) : yX M M2 := ⟨fun a h => (h2.1 a h).trans (h1.1 a h), fun k a b c d e => (h2.2 k a b c d e).trans (h1.2 k a b c d e)⟩
theorem yX_r (M : Nat → Nat → Int) : yX M M := ⟨fun _ _ => rfl, fun _ _ _ _ _ _ => rfl⟩
theorem yX_u (h : yX M M1) {k : Nat} {v : Int} (hk : k = 7 ∨ k = 8 ∨ k = 9 ∨ k = 10 ∨ k = 11) : yX M (zup M1 305 k v) := ⟨fun a ha => by rw [zup_rw ha]; exact h.1 a ha, fun j a b c d e => by rw [zup_ne (by omega)]; exact h.2 j a b c d e⟩
theorem yTa_x (h : yX M M1) (ht : yTa B len M) : yTa B len M1 := ⟨by rw [h.2 4 (by decide) (by decide) (by decide) (by decide) (by decide)]; exact ht.1, ht.2.1, by rw [h.1 309 (by decide)]; exact ht.2.2⟩
theorem km_byteAt (hF : qFx S R) (ht : yTa B len M) (p : Nat) : zcal zPP (d + 1) 192 [zA 305, zI p] (n, s, S, R, M) = some (zI (if p < len then ((B p : Nat) : Int) else -1), (n, s, S, R, M)) := by
  obtain ⟨h4, hl, hB⟩ := ht
  rw [c_M_byteAt]
  simp only [qff hF, if_true, h4]
  by_cases hp : p < len
  · have hpi : 0 ≤ (p : Int) ∧ (p : Int) < ((300 : Nat) : Int) := by omega
    rw [if_pos (by omega), if_pos hp]
    simp only [true_or, true_and, if_pos hpi, Int.toNat_natCast, (hB p hp).1]
  · rw [if_neg (by omega), if_neg hp]
theorem km_isLetter {c : Nat} (σ : zS) : zcal zPP (d + 1) 194 [zI c] σ = some (zI (if qisL c = true then 1 else 0), σ) := by
  rw [c_M_isLetterByte]
  unfold qisL
  by_cases h1 : 97 ≤ c
  · rw [if_neg (by omega)]
    by_cases h2 : c ≤ 122
    · rw [if_neg (by omega), decide_eq_true h1, decide_eq_true h2]
      simp
    · rw [if_pos (by omega), if_neg (by omega), if_pos (by omega), decide_eq_false h2, decide_eq_false (show ¬ c ≤ 90 by omega)]
      simp
  · rw [if_pos (by omega), decide_eq_false h1]
    by_cases h2 : 65 ≤ c
    · rw [if_neg (by omega), decide_eq_true h2]
      by_cases h3 : c ≤ 90
      · rw [if_neg (by omega), decide_eq_true h3]
        simp
      · rw [if_pos (by omega), decide_eq_false h3]
        simp
    · rw [if_pos (by omega), decide_eq_false h2]
      simp
theorem km_isFigure {c : Nat} (σ : zS) : zcal zPP (d + 1) 193 [zI c] σ = some (zI (if qisD c = true then 1 else 0), σ) := by
  rw [c_M_isFigure]
  unfold qisD
  by_cases h1 : 48 ≤ c
  · rw [if_neg (by omega), decide_eq_true h1]
    by_cases h2 : c ≤ 57
    · rw [if_neg (by omega), decide_eq_true h2]
      simp
    · rw [if_pos (by omega), decide_eq_false h2]
      simp
  · rw [if_pos (by omega), decide_eq_false h1]
    simp
theorem km_isLetN (σ : zS) : zcal zPP (d + 1) 194 [zI (-1)] σ = some (zI 0, σ) := by
  rw [c_M_isLetterByte]
  rfl
theorem km_isFigN (σ : zS) : zcal zPP (d + 1) 193 [zI (-1)] σ = some (zI 0, σ) := by
  rw [c_M_isFigure]
  rfl
theorem km_isSign {c : Nat} (hc : c < 256) (σ : zS) : zcal zPP (d + 1) 195 [zI c] σ = some (zI (if qfi c qmarks 29 = 44 then 0 else 1), σ) := by
  have h : ∀ c : Nat, c < 256 → (if (c : Int) = 35 ∨ (c : Int) = 40 ∨ (c : Int) = 41 ∨ (c : Int) = 42 ∨ (c : Int) = 43 ∨ (c : Int) = 44 ∨ (c : Int) = 45 ∨ (c : Int) = 47 ∨ (c : Int) = 59 ∨ (c : Int) = 60 ∨ (c : Int) = 61 ∨ (c : Int) = 62 then (1 : Int) else 0) = if qfi c qmarks 29 = 44 then 0 else 1 := by decide +kernel
  have h := h c hc
  rw [c_M_isSign, ← h]
  clear h
  generalize (c : Int) = x
  generalize hr : (if x = 35 ∨ x = 40 ∨ x = 41 ∨ x = 42 ∨ x = 43 ∨ x = 44 ∨ x = 45 ∨ x = 47 ∨ x = 59 ∨ x = 60 ∨ x = 61 ∨ x = 62 then (1 : Int) else 0) = r
  by_cases h35 : x = 35
  · rw [if_pos h35, ← hr, if_pos (by omega)]
  rw [if_neg h35]
  by_cases h36 : x = 36
  · rw [if_pos h36, ← hr, if_neg (by omega)]
  rw [if_neg h36]
  by_cases h37 : x = 37
  · rw [if_pos h37, ← hr, if_neg (by omega)]
  rw [if_neg h37]
  by_cases h38 : x = 38
  · rw [if_pos h38, ← hr, if_neg (by omega)]
  rw [if_neg h38]
  by_cases h39 : x = 39
  · rw [if_pos h39, ← hr, if_neg (by omega)]
  rw [if_neg h39]
  by_cases h40 : x = 40
  · rw [if_pos h40, ← hr, if_pos (by omega)]
  rw [if_neg h40]
  by_cases h41 : x = 41
  · rw [if_pos h41, ← hr, if_pos (by omega)]
  rw [if_neg h41]
  by_cases h42 : x = 42
  · rw [if_pos h42, ← hr, if_pos (by omega)]
  rw [if_neg h42]
  by_cases h43 : x = 43
  · rw [if_pos h43, ← hr, if_pos (by omega)]
  rw [if_neg h43]
  by_cases h44 : x = 44
  · rw [if_pos h44, ← hr, if_pos (by omega)]
  rw [if_neg h44]
  by_cases h45 : x = 45
  · rw [if_pos h45, ← hr, if_pos (by omega)]
  rw [if_neg h45]
  by_cases h46 : x = 46
  · rw [if_pos h46, ← hr, if_neg (by omega)]
  rw [if_neg h46]
  by_cases h47 : x = 47
  · rw [if_pos h47, ← hr, if_pos (by omega)]
  rw [if_neg h47]
  by_cases h48 : x = 48
  · rw [if_pos h48, ← hr, if_neg (by omega)]
  rw [if_neg h48]
  by_cases h49 : x = 49
  · rw [if_pos h49, ← hr, if_neg (by omega)]
  rw [if_neg h49]
  by_cases h50 : x = 50
  · rw [if_pos h50, ← hr, if_neg (by omega)]
  rw [if_neg h50]
  by_cases h51 : x = 51
  · rw [if_pos h51, ← hr, if_neg (by omega)]
  rw [if_neg h51]
  by_cases h52 : x = 52
  · rw [if_pos h52, ← hr, if_neg (by omega)]
  rw [if_neg h52]
  by_cases h53 : x = 53
  · rw [if_pos h53, ← hr, if_neg (by omega)]
  rw [if_neg h53]
  by_cases h54 : x = 54
  · rw [if_pos h54, ← hr, if_neg (by omega)]
  rw [if_neg h54]
  by_cases h55 : x = 55
  · rw [if_pos h55, ← hr, if_neg (by omega)]
  rw [if_neg h55]
  by_cases h56 : x = 56
  · rw [if_pos h56, ← hr, if_neg (by omega)]
  rw [if_neg h56]
  by_cases h57 : x = 57
  · rw [if_pos h57, ← hr, if_neg (by omega)]
  rw [if_neg h57]
  by_cases h58 : x = 58
  · rw [if_pos h58, ← hr, if_neg (by omega)]
  rw [if_neg h58]
  by_cases h59 : x = 59
  · rw [if_pos h59, ← hr, if_pos (by omega)]
  rw [if_neg h59]
  by_cases h60 : x = 60
  · rw [if_pos h60, ← hr, if_pos (by omega)]
  rw [if_neg h60]
  by_cases h61 : x = 61
  · rw [if_pos h61, ← hr, if_pos (by omega)]
  rw [if_neg h61]
  by_cases h62 : x = 62
  · rw [if_pos h62, ← hr, if_pos (by omega)]
  rw [if_neg h62]
  rw [← hr, if_neg (by omega)]
theorem km_next (hF : qFx S R) (ht : yTa B len M) {i : Nat} (h7 : M 305 7 = ypos B len i) : ∃ M', zcal zPP (d + 2) 191 [zA 305] (n, s, S, R, M) = some (zU, (n, s, S, R, M')) ∧ yNx B len M' i ∧ yX M M' := by
  have hlen := ht.2.1
  have hBs : ∀ k, k < len → B k < 256 := fun k hk => (ht.2.2 k hk).2
  have hqle : ypl B len i ≤ len := ypl_le
  -- blanks
  have SKIP : ∀ (m p : Nat) (M1 : Nat → Nat → Int), len - p ≤ m → p ≤ len → yP B len p = ypl B len i → yX M M1 → M1 305 7 = p → ∃ M2, zR zPP (d + 1) 191 0 [zA 305, zU] [] (n, s, S, R, M1) = zR zPP (d + 1) 191 0 [zA 305, zU] [] (n, s, S, R, M2) ∧ yX M M2 ∧ M2 305 7 = ypl B len i := by
    intro m
    induction m with
    | zero =>
      intro p M1 hm hp hy hx h
      have : p = len := by omega
      subst this
      have : yP B p p = p := yend_no (fun z => Nat.lt_irrefl _ z.1)
      exact ⟨M1, rfl, hx, by rw [h, ← hy, this]⟩
    | succ m ih =>
      intro p M1 hm hp hy hx h
      by_cases hpl : p < len
      · by_cases hb : yblk (B p) = true
        · have hgo : yP B len p = yP B len (p + 1) := yend_go hpl hb
          have hbb : B p = 32 ∨ B p = 10 := by
            unfold yblk at hb
            simp at hb
            exact hb
          obtain ⟨M2, r1, r2, r3⟩ := ih (p + 1) (zup M1 305 7 ((p + 1 : Nat) : Int)) (by omega) (by omega) (by rw [← hgo]; exact hy) (yX_u hx (by omega)) zup_at
          refine ⟨M2, Eq.trans ?_ r1, r2, r3⟩
          have hby := km_byteAt (n := n) (s := s) (d := d) hF (yTa_x hx ht) p
          rw [if_pos hpl] at hby
          rw [e_M_nextToken_0]
          simp only [qff hF, if_true, h]
          rw [hby]
          simp only [zbI, qff hF, if_true, h]
          have e12 : zR zPP (d + 1) 191 12 [zA 305, zU] [] (n, s, S, R, M1) = zR zPP (d + 1) 191 0 [zA 305, zU] [] (n, s, S, R, zup M1 305 7 ((p + 1 : Nat) : Int)) := by
            rw [e_M_nextToken_12]
            simp only [qff hF, if_true, h, qw1 (k := p) (by omega)]
          by_cases h32 : B p = 32
          · rw [if_pos (by omega), e12]
          · rw [if_neg (by omega), hby]
            simp only []
            rw [if_pos (by omega), e12]
        · have : yP B len p = p := yend_no (fun z => hb z.2)
          exact ⟨M1, rfl, hx, by rw [h, ← hy, this]⟩
      · have : yP B len p = p := yend_no (fun z => hpl z.1)
        exact ⟨M1, rfl, hx, by rw [h, ← hy, this]⟩
  obtain ⟨M1, r1, x1, g7⟩ := SKIP len (ypos B len i) M (by omega) (ypos_le i) rfl (yX_r M) h7
  have hno : ¬ (ypl B len i < len ∧ yblk (B (ypl B len i)) = true) := (yend_in (P := yblk) (B := B) (len := len) (len - ypos B len i) (ypos B len i) rfl).2.2.2
  have hpe : ypos B len (i + 1) = yE0 B len (ypl B len i) := rfl
  unfold yNx ytk
  rw [hpe]
  have hc : zcal zPP (d + 2) 191 [zA 305] (n, s, S, R, M) = zR zPP (d + 1) 191 0 [zA 305, zU] [] (n, s, S, R, M1) := by
    rw [c_M_nextToken]
    simp only [qff hF, if_true]
    exact r1
  rw [hc]
  clear hc r1
  generalize ypl B len i = q at *
  have x2 : yX M (zup M1 305 8 q) := yX_u x1 (by omega)
  have hby1 := km_byteAt (n := n) (s := s) (d := d) hF (yTa_x x1 ht) q
  have hby2 := km_byteAt (n := n) (s := s) (d := d) hF (yTa_x x2 ht) q
  have g7' : zup M1 305 8 q 305 7 = q := by rw [zup_ne (by decide)]; exact g7
  by_cases hq : q < len
  · rw [if_pos hq] at hby1 hby2
    have hb : ¬ (B q = 32 ∨ B q = 10) := fun z => hno ⟨hq, by unfold yblk; rcases z with z | z <;> rw [z] <;> rfl⟩
    have hhead : zR zPP (d + 1) 191 0 [zA 305, zU] [] (n, s, S, R, M1) = if qisD (B q) = true then zR zPP (d + 1) 191 43 [zA 305, zI (B q)] [] (n, s, S, R, zup (zup (zup M1 305 8 q) 305 9 1) 305 10 0) else if qisL (B q) = true then zR zPP (d + 1) 191 85 [zA 305, zI (B q)] [] (n, s, S, R, zup (zup (zup M1 305 8 q) 305 9 2) 305 11 0) else zR zPP (d + 1) 191 126 [zA 305, zI (B q)] [zI (if qfi (B q) qmarks 29 = 44 then 3 else ((B q : Nat) : Int)), zA 305] (n, s, S, R, zup M1 305 8 q) := by
      rw [e_M_nextToken_0]
      simp only [qff hF, if_true, g7]
      rw [hby1]
      simp only [zbI, qff hF, if_true, g7]
      rw [if_neg (by omega), hby1]
      simp only [qff hF, if_true, g7, g7']
      rw [if_neg (by omega), hby2]
      simp only [qff hF, if_true]
      rw [if_neg (by omega), km_isFigure]
      simp only []
      by_cases hD : qisD (B q) = true
      · rw [if_pos hD, if_pos hD, if_neg (by decide)]
        simp only [qff hF, if_true]
      · rw [if_neg hD, if_neg hD, if_pos rfl, km_isLetter]
        simp only []
        by_cases hL : qisL (B q) = true
        · rw [if_pos hL, if_pos hL, if_neg (by decide)]
          simp only [qff hF, if_true]
        · rw [if_neg hL, if_neg hL, if_pos rfl, km_isSign (hBs q hq)]
          simp only []
          by_cases hg : qfi (B q) qmarks 29 = 44
          · rw [if_pos hg, if_pos hg, if_pos rfl]
          · rw [if_neg hg, if_neg hg, if_neg (by decide)]
    rw [hhead]
    clear hhead hby1 hby2
    by_cases hL : qisL (B q) = true
    · have hD : ¬ qisD (B q) = true := fun z => by
        have := qisL_in hL
        unfold qisD at z
        simp at z
        omega
      rw [if_neg hD, if_pos hL]
      have eE : yE0 B len q = yend qisL B len q := by unfold yE0; rw [if_pos hq, if_pos hL]
      have eK : ytk0 B len q = 2 := by unfold ytk0; rw [if_pos hq, if_pos hL]
      rw [eE, eK]
      have he := yend_in (P := qisL) (B := B) (len := len) (len - q) q rfl
      have hel := he.2.1 (by omega)
      have LOOP : ∀ (m j : Nat) (M2 : Nat → Nat → Int), yend qisL B len q = j + m → q ≤ j → yend qisL B len j = yend qisL B len q → yX M M2 → M2 305 7 = j → M2 305 8 = q → M2 305 9 = 2 → M2 305 11 = ypm B q (j - q) → ∃ M', zR zPP (d + 1) 191 85 [zA 305, zI (B q)] [] (n, s, S, R, M2) = some (zU, (n, s, S, R, M')) ∧ (M' 305 7 = (yend qisL B len q : Nat) ∧ M' 305 8 = q ∧ M' 305 9 = 2 ∧ M' 305 11 = ypm B q (yend qisL B len q - q)) ∧ yX M M' := by
        intro m
        induction m with
        | zero =>
          intro j M2 hj hqj hje hx a7 a8 a9 a11
          have hj' : yend qisL B len q = j := hj
          rw [hj'] at hje ⊢
          have hn := (yend_in (P := qisL) (B := B) (len := len) (len - j) j rfl).2.2.2
          rw [hje] at hn
          refine ⟨M2, ?_, ⟨a7, a8, a9, a11⟩, hx⟩
          have hby := km_byteAt (n := n) (s := s) (d := d) hF (yTa_x hx ht) j
          rw [e_M_nextToken_85]
          simp only [qff hF, if_true, a7]
          rw [hby]
          simp only [zbI]
          by_cases hjl : j < len
          · rw [if_pos hjl, km_isLetter, if_neg (fun z => hn ⟨hjl, z⟩)]
            simp only []
            rw [if_pos (by trivial), e_M_nextToken_159]
          · rw [if_neg hjl, km_isLetN]
            simp only []
            rw [if_pos (by trivial), e_M_nextToken_159]
        | succ m ih =>
          intro j M2 hj hqj hje hx a7 a8 a9 a11
          have hjl : j < len := by omega
          have hjL : qisL (B j) = true := by
            apply Classical.byContradiction
            intro z
            rw [yend_no (fun h => z h.2)] at hje
            omega
          have hby := km_byteAt (n := n) (s := s) (d := d) hF (yTa_x hx ht) j
          rw [if_pos hjl] at hby
          have hpm : ypm B q (j - q) ≤ 1152921504606846976 := by
            have : ∀ k, k ≤ j - q → ypm B q k ≤ 1152921504606846976 := by
              intro k
              induction k with
              | zero => intro _; exact Nat.zero_le _
              | succ k ihk =>
                intro hk
                have := ihk (by omega)
                have hb := hBs (q + k) (by omega)
                show (if ypm B q k / 281474976710656 ≠ 0 then 1152921504606846976 else ypm B q k * 256 + B (q + k)) ≤ _
                split <;> omega
            exact this _ (Nat.le_refl _)
          have hbj := hBs j hjl
          have e1 : j + 1 - q = (j - q) + 1 := by omega
          have e2 : q + (j - q) = j := by omega
          have hnew : ypm B q (j + 1 - q) = if ypm B q (j - q) / 281474976710656 ≠ 0 then 1152921504606846976 else ypm B q (j - q) * 256 + B j := by
            rw [e1]
            show (if ypm B q (j - q) / 281474976710656 ≠ 0 then 1152921504606846976 else ypm B q (j - q) * 256 + B (q + (j - q))) = _
            rw [e2]
          have a7' : ∀ v : Int, zup M2 305 11 v 305 7 = j := fun v => by rw [zup_ne (by decide)]; exact a7
          obtain ⟨M', r1, r2⟩ := ih (j + 1) (zup (zup M2 305 11 (ypm B q (j + 1 - q) : Nat)) 305 7 ((j + 1 : Nat) : Int)) (by omega) (by omega) (by rw [← hje, yend_go hjl hjL]) (yX_u (yX_u hx (by omega)) (by omega)) zup_at (by rw [zup_ne (by decide), zup_ne (by decide)]; exact a8) (by rw [zup_ne (by decide), zup_ne (by decide)]; exact a9) (by rw [zup_ne (by decide), zup_at])
          refine ⟨M', Eq.trans ?_ r1, r2⟩
          rw [e_M_nextToken_85]
          simp only [qff hF, if_true, a7]
          rw [hby]
          simp only [zbI]
          rw [km_isLetter, if_pos hjL]
          simp only [qff hF, if_true, a7, a11]
          rw [if_neg (by decide)]
          simp only [zcmp_eq]
          rw [ylshr48 (by omega), hnew]
          generalize ypm B q (j - q) = v at *
          by_cases hz : v / 281474976710656 = 0
          · rw [if_pos (by omega), hby]
            simp only []
            rw [ywb (by omega) hbj, e_M_nextToken_111]
            simp only [qff hF, if_true, a7', qw1 (k := j) (by omega)]
            rw [if_neg (fun z => z hz)]
          · rw [if_neg (by omega), e_M_nextToken_111]
            simp only [qff hF, if_true, a7', qw1 (k := j) (by omega)]
            rw [if_pos hz]
            rfl
      obtain ⟨M', r1, ⟨r2, r3, r4, r5⟩, r6⟩ := LOOP (yend qisL B len q - q) q (zup (zup (zup M1 305 8 q) 305 9 2) 305 11 0) (by omega) (Nat.le_refl _) rfl (yX_u (yX_u x2 (by omega)) (by omega)) (by rw [zup_ne (by decide), zup_ne (by decide)]; exact g7') (by rw [zup_ne (by decide), zup_ne (by decide), zup_at]) (by rw [zup_ne (by decide), zup_at]) (by rw [zup_at, Nat.sub_self]; rfl)
      exact ⟨M', r1, ⟨r2, r3, r4, fun h => absurd h (by decide), fun _ => r5⟩, r6⟩
    rw [if_neg hL]
    by_cases hD : qisD (B q) = true
    · rw [if_pos hD]
      have eE : yE0 B len q = yend qisD B len q := by unfold yE0; rw [if_pos hq, if_neg hL, if_pos hD]
      have eK : ytk0 B len q = 1 := by unfold ytk0; rw [if_pos hq, if_neg hL, if_pos hD]
      rw [eE, eK]
      have he := yend_in (P := qisD) (B := B) (len := len) (len - q) q rfl
      have hel := he.2.1 (by omega)
      have LOOP : ∀ (m j : Nat) (M2 : Nat → Nat → Int), yend qisD B len q = j + m → q ≤ j → yend qisD B len j = yend qisD B len q → yX M M2 → M2 305 7 = j → M2 305 8 = q → M2 305 9 = 1 → M2 305 10 = ynu B q (j - q) → ynu B q (j - q) ≤ 1000000 → ∃ M', zR zPP (d + 1) 191 43 [zA 305, zI (B q)] [] (n, s, S, R, M2) = some (zU, (n, s, S, R, M')) ∧ (M' 305 7 = (yend qisD B len q : Nat) ∧ M' 305 8 = q ∧ M' 305 9 = 1 ∧ M' 305 10 = ynu B q (yend qisD B len q - q)) ∧ yX M M' := by
        intro m
        induction m with
        | zero =>
          intro j M2 hj hqj hje hx a7 a8 a9 a10 _
          have hj' : yend qisD B len q = j := hj
          rw [hj'] at hje ⊢
          have hn := (yend_in (P := qisD) (B := B) (len := len) (len - j) j rfl).2.2.2
          rw [hje] at hn
          refine ⟨M2, ?_, ⟨a7, a8, a9, a10⟩, hx⟩
          have hby := km_byteAt (n := n) (s := s) (d := d) hF (yTa_x hx ht) j
          rw [e_M_nextToken_43]
          simp only [qff hF, if_true, a7]
          rw [hby]
          simp only [zbI]
          by_cases hjl : j < len
          · rw [if_pos hjl, km_isFigure, if_neg (fun z => hn ⟨hjl, z⟩)]
            simp only []
            rw [if_pos (by trivial), e_M_nextToken_159]
          · rw [if_neg hjl, km_isFigN]
            simp only []
            rw [if_pos (by trivial), e_M_nextToken_159]
        | succ m ih =>
          intro j M2 hj hqj hje hx a7 a8 a9 a10 hnb
          have hjl : j < len := by omega
          have hjL : qisD (B j) = true := by
            apply Classical.byContradiction
            intro z
            rw [yend_no (fun h => z h.2)] at hje
            omega
          have hd48 : 48 ≤ B j ∧ B j ≤ 57 := by
            unfold qisD at hjL
            simp at hjL
            exact hjL
          have hby := km_byteAt (n := n) (s := s) (d := d) hF (yTa_x hx ht) j
          rw [if_pos hjl] at hby
          have e1 : j + 1 - q = (j - q) + 1 := by omega
          have e2 : q + (j - q) = j := by omega
          have hnew : ynu B q (j + 1 - q) = if 99999 < ynu B q (j - q) then ynu B q (j - q) else 10 * ynu B q (j - q) + (B j - 48) := by
            rw [e1]
            show (if 99999 < ynu B q (j - q) then ynu B q (j - q) else 10 * ynu B q (j - q) + (B (q + (j - q)) - 48)) = _
            rw [e2]
          have a7' : ∀ v : Int, zup M2 305 10 v 305 7 = j := fun v => by rw [zup_ne (by decide)]; exact a7
          obtain ⟨M', r1, r2⟩ := ih (j + 1) (zup (zup M2 305 10 (ynu B q (j + 1 - q) : Nat)) 305 7 ((j + 1 : Nat) : Int)) (by omega) (by omega) (by rw [← hje, yend_go hjl hjL]) (yX_u (yX_u hx (by omega)) (by omega)) zup_at (by rw [zup_ne (by decide), zup_ne (by decide)]; exact a8) (by rw [zup_ne (by decide), zup_ne (by decide)]; exact a9) (by rw [zup_ne (by decide), zup_at]) (by rw [hnew]; split <;> omega)
          refine ⟨M', Eq.trans ?_ r1, r2⟩
          rw [e_M_nextToken_43]
          simp only [qff hF, if_true, a7]
          rw [hby]
          simp only [zbI]
          rw [km_isFigure, if_pos hjL]
          simp only [qff hF, if_true, a7, a10]
          rw [if_neg (by decide), hnew]
          generalize ynu B q (j - q) = v at *
          by_cases hz : 99999 < v
          · rw [if_pos (by omega), e_M_nextToken_68, if_pos hz]
            simp only [qff hF, if_true, a7', qw1 (k := j) (by omega)]
          · have hstep : zw32 (zw32 (zw32 (10 * (v : Int)) + (B j : Nat)) - 48) = ((10 * v + (B j - 48) : Nat) : Int) := by
              rw [qz (x := 10 * (v : Int)) (by omega) (by omega), qz (x := 10 * (v : Int) + (B j : Nat)) (by omega) (by omega), qz (x := 10 * (v : Int) + (B j : Nat) - 48) (by omega) (by omega)]
              omega
            rw [if_neg (by omega), hby]
            simp only [hstep]
            rw [e_M_nextToken_68, if_neg hz]
            simp only [qff hF, if_true, a7', qw1 (k := j) (by omega)]
      obtain ⟨M', r1, ⟨r2, r3, r4, r5⟩, r6⟩ := LOOP (yend qisD B len q - q) q (zup (zup (zup M1 305 8 q) 305 9 1) 305 10 0) (by omega) (Nat.le_refl _) rfl (yX_u (yX_u x2 (by omega)) (by omega)) (by rw [zup_ne (by decide), zup_ne (by decide)]; exact g7') (by rw [zup_ne (by decide), zup_ne (by decide), zup_at]) (by rw [zup_ne (by decide), zup_at]) (by rw [zup_at, Nat.sub_self]; rfl) (by rw [Nat.sub_self]; exact Nat.zero_le _)
      exact ⟨M', r1, ⟨r2, r3, r4, fun _ => r5, fun h => absurd h (by decide)⟩, r6⟩
    rw [if_neg hD]
    -- a mark
    generalize hv : (if qfi (B q) qmarks 29 = 44 then (3 : Int) else ((B q : Nat) : Int)) = v
    have a7 : zup (zup M1 305 8 q) 305 9 v 305 7 = q := by rw [zup_ne (by decide)]; exact g7'
    have x3 : yX M (zup (zup (zup M1 305 8 q) 305 9 v) 305 7 ((q + 1 : Nat) : Int)) := yX_u (yX_u x2 (by omega)) (by omega)
    have b7 : zup (zup (zup M1 305 8 q) 305 9 v) 305 7 ((q + 1 : Nat) : Int) 305 7 = ((q + 1 : Nat) : Int) := zup_at
    have b8 : zup (zup (zup M1 305 8 q) 305 9 v) 305 7 ((q + 1 : Nat) : Int) 305 8 = q := by rw [zup_ne (by decide), zup_ne (by decide), zup_at]
    have b9 : zup (zup (zup M1 305 8 q) 305 9 v) 305 7 ((q + 1 : Nat) : Int) 305 9 = v := by rw [zup_ne (by decide), zup_at]
    have hby := km_byteAt (n := n) (s := s) (d := d) hF (yTa_x x3 ht) (q + 1)
    have e126 : zR zPP (d + 1) 191 126 [zA 305, zI (B q)] [zI v, zA 305] (n, s, S, R, zup M1 305 8 q) = if B q = 60 ∨ B q = 62 then zR zPP (d + 1) 191 139 [zA 305, zI (B q)] [] (n, s, S, R, zup (zup (zup M1 305 8 q) 305 9 v) 305 7 ((q + 1 : Nat) : Int)) else some (zU, (n, s, S, R, zup (zup (zup M1 305 8 q) 305 9 v) 305 7 ((q + 1 : Nat) : Int))) := by
      rw [e_M_nextToken_126]
      simp only [qff hF, if_true, a7, qw1 (k := q) (by omega)]
      by_cases h60 : B q = 60
      · rw [if_pos (by omega), if_pos (Or.inl h60)]
      · rw [if_neg (by omega)]
        by_cases h62 : B q = 62
        · rw [if_pos (by omega), if_pos (Or.inr h62)]
        · rw [if_neg (by omega), if_neg (by omega), e_M_nextToken_159]
    rw [e126]
    generalize zup (zup (zup M1 305 8 q) 305 9 v) 305 7 ((q + 1 : Nat) : Int) = M2 at *
    have e139 : zR zPP (d + 1) 191 139 [zA 305, zI (B q)] [] (n, s, S, R, M2) = if q + 1 < len ∧ B (q + 1) = 61 then some (zU, (n, s, S, R, zup (zup M2 305 9 (if B q = 60 then 4 else 5)) 305 7 ((q + 2 : Nat) : Int))) else some (zU, (n, s, S, R, M2)) := by
      rw [e_M_nextToken_139]
      simp only [qff hF, if_true, b7]
      rw [hby]
      simp only [zbI]
      by_cases h : q + 1 < len ∧ B (q + 1) = 61
      · have a7'' : ∀ v : Int, zup M2 305 9 v 305 7 = ((q + 1 : Nat) : Int) := fun v => by rw [zup_ne (by decide)]; exact b7
        rw [if_pos h, if_pos h.1, if_pos (by omega)]
        by_cases h60 : B q = 60
        · rw [if_pos (by omega), e_M_nextToken_152, if_pos h60]
          simp only [qff hF, if_true, a7'', qw1 (k := q + 1) (by omega)]
          rw [e_M_nextToken_159]
        · rw [if_neg (by omega), e_M_nextToken_152, if_neg h60]
          simp only [qff hF, if_true, a7'', qw1 (k := q + 1) (by omega)]
          rw [e_M_nextToken_159]
      · rw [if_neg h]
        by_cases hl1 : q + 1 < len
        · rw [if_pos hl1, if_neg (by omega), e_M_nextToken_159]
        · rw [if_neg hl1, if_neg (by decide), e_M_nextToken_159]
    have hwide : (ywide B len q = true) ↔ (B q = 60 ∨ B q = 62) ∧ q + 1 < len ∧ B (q + 1) = 61 := by
      unfold ywide
      simp
    by_cases hw : ywide B len q = true
    · have hw' := hwide.mp hw
      have eE : yE0 B len q = q + 2 := by unfold yE0; rw [if_pos hq, if_neg hL, if_neg hD, if_pos hw]
      have eK : ytk0 B len q = if B q = 60 then 4 else 5 := by unfold ytk0; rw [if_pos hq, if_neg hL, if_neg hD, if_pos hw]
      rw [if_pos hw'.1, e139, if_pos hw'.2, eE, eK]
      refine ⟨_, rfl, ⟨zup_at, by rw [zup_ne (by decide), zup_ne (by decide)]; exact b8, ?_, fun h => ?_, fun h => ?_⟩, yX_u (yX_u x3 (by omega)) (by omega)⟩
      · rw [zup_ne (by decide), zup_at]
        by_cases h60 : B q = 60
        · rw [if_pos h60, if_pos h60]; rfl
        · rw [if_neg h60, if_neg h60]; rfl
      · split at h <;> cases h
      · split at h <;> cases h
    · have eE : yE0 B len q = q + 1 := by unfold yE0; rw [if_pos hq, if_neg hL, if_neg hD, if_neg hw]
      have eK : ytk0 B len q = if qfi (B q) qmarks 29 = 44 then 3 else B q := by unfold ytk0; rw [if_pos hq, if_neg hL, if_neg hD, if_neg hw]
      have hend : (if B q = 60 ∨ B q = 62 then zR zPP (d + 1) 191 139 [zA 305, zI (B q)] [] (n, s, S, R, M2) else some (zU, (n, s, S, R, M2))) = some (zU, (n, s, S, R, M2)) := by
        by_cases h : B q = 60 ∨ B q = 62
        · rw [if_pos h, e139, if_neg (fun z => hw (hwide.mpr ⟨h, z⟩))]
        · rw [if_neg h]
      have hge : ∀ c : Nat, c < 256 → (if qfi c qmarks 29 = 44 then 3 else c) ≠ 1 ∧ (if qfi c qmarks 29 = 44 then 3 else c) ≠ 2 := by decide +kernel
      have hg := hge (B q) (hBs q hq)
      rw [hend, eE, eK]
      refine ⟨M2, rfl, ⟨b7, b8, ?_, fun h => absurd h hg.1, fun h => absurd h hg.2⟩, x3⟩
      rw [b9, ← hv]
      by_cases hh : qfi (B q) qmarks 29 = 44
      · rw [if_pos hh, if_pos hh]; rfl
      · rw [if_neg hh, if_neg hh]
  · rw [if_neg hq] at hby1 hby2
    have eE : yE0 B len q = q := by unfold yE0; rw [if_neg hq]
    have eK : ytk0 B len q = 0 := by unfold ytk0; rw [if_neg hq]
    rw [eE, eK]
    refine ⟨zup (zup M1 305 8 q) 305 9 0, ?_, ⟨by rw [zup_ne (by decide)]; exact g7', by rw [zup_ne (by decide), zup_at], zup_at, fun h => absurd h (by decide), fun h => absurd h (by decide)⟩, yX_u x2 (by omega)⟩
    rw [e_M_nextToken_0]
    simp only [qff hF, if_true, g7]
    rw [hby1]
    simp only [zbI, qff hF, if_true, g7]
    rw [if_neg (by decide), hby1]
    simp only [qff hF, if_true, g7, g7']
    rw [if_neg (by decide), hby2]
    simp only [qff hF, if_true]
    rw [if_pos (by decide), e_M_nextToken_159]
end QF
