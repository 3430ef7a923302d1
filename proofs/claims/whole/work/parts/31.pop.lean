/-! HOW MANY BITS -/
def zpop : Nat → Nat → Nat
  | 0, _ => 0
  | n + 1, x => x % 2 + zpop n (x / 2)
def zct (f : Nat → Bool) : Nat → Nat
  | 0 => 0
  | n + 1 => zct f n + (if f n then 1 else 0)
theorem zct_le (f : Nat → Bool) : ∀ n, zct f n ≤ n
  | 0 => Nat.le_refl _
  | n + 1 => by have := zct_le f n; unfold zct; split <;> omega
theorem zct_cong {f g : Nat → Bool} : ∀ {n : Nat}, (∀ i, i < n → f i = g i) → zct f n = zct g n
  | 0, _ => rfl
  | n + 1, h => by
    unfold zct
    rw [zct_cong (fun i hi => h i (Nat.lt_succ_of_lt hi)), h n (Nat.lt_succ_self n)]
theorem zsn_low (f : Nat → Bool) : ∀ n, zsn f (n + 1) = (if f 0 then 1 else 0) + 2 * zsn (fun i => f (i + 1)) n
  | 0 => by simp [zsn]
  | n + 1 => by
    have h := zsn_low f n
    show zsn f (n + 1) + (if f (n + 1) then 2 ^ (n + 1) else 0) = _ + 2 * (zsn (fun i => f (i + 1)) n + (if f (n + 1) then 2 ^ n else 0))
    rw [h, Nat.pow_succ]
    cases f (n + 1)
    · simp
    · simp only [if_true]
      omega
theorem zct_low (f : Nat → Bool) : ∀ n, zct f (n + 1) = (if f 0 then 1 else 0) + zct (fun i => f (i + 1)) n
  | 0 => by simp [zct]
  | n + 1 => by
    have h := zct_low f n
    show zct f (n + 1) + (if f (n + 1) then 1 else 0) = _ + (zct (fun i => f (i + 1)) n + (if f (n + 1) then 1 else 0))
    rw [h]
    omega
theorem zpop_zsn : ∀ (n : Nat) (f : Nat → Bool), zpop n (zsn f n) = zct f n
  | 0, f => rfl
  | n + 1, f => by
    rw [zsn_low, zct_low]
    unfold zpop
    rw [← zpop_zsn n (fun i => f (i + 1))]
    generalize zsn (fun i => f (i + 1)) n = y
    have h1 : ((if f 0 = true then 1 else 0) + 2 * y) % 2 = (if f 0 = true then 1 else 0) := by split <;> omega
    have h2 : ((if f 0 = true then 1 else 0) + 2 * y) / 2 = y := by split <;> omega
    rw [h1, h2]
theorem zpop_0 : ∀ n, zpop n 0 = 0
  | 0 => rfl
  | n + 1 => by unfold zpop; rw [Nat.zero_mod, Nat.zero_div, zpop_0 n]
theorem zpop_more : ∀ (n m x : Nat), x < 2 ^ n → zpop (n + m) x = zpop n x
  | 0, m, x, h => by
    have : x = 0 := by simp at h; exact h
    subst this
    rw [zpop_0, zpop_0]
  | n + 1, m, x, h => by
    rw [Nat.add_right_comm]
    unfold zpop
    rw [zpop_more n m (x / 2) (by rw [Nat.pow_succ] at h; omega)]
/-- a byte beside the rest -/
theorem znd_split {a h m k : Nat} (ha : a < 256) (hm : m < 256) : (a + 256 * h) &&& (m + 256 * k) = (a &&& m) + 256 * (h &&& k) := by
  refine znat_ext fun i => ?_
  have hb : (a &&& m) < 2 ^ 8 := Nat.lt_of_le_of_lt Nat.and_le_left ha
  rw [Nat.testBit_and, Nat.add_comm a, Nat.add_comm m, Nat.add_comm (a &&& m)]
  rw [show 256 * h = 2 ^ 8 * h from rfl, show 256 * k = 2 ^ 8 * k from rfl, show 256 * (h &&& k) = 2 ^ 8 * (h &&& k) from rfl]
  rw [Nat.testBit_two_pow_mul_add h (show a < 2 ^ 8 from ha), Nat.testBit_two_pow_mul_add k (show m < 2 ^ 8 from hm), Nat.testBit_two_pow_mul_add _ hb]
  split
  · rw [Nat.testBit_and]
  · rw [Nat.testBit_and]
def zh1 (M x : Nat) : Nat := x - ((x / 2) &&& M)
def zh2 (M x : Nat) : Nat := (x &&& M) + ((x / 4) &&& M)
def zh3 (M x : Nat) : Nat := (x + x / 16) &&& M
theorem zby1 : ∀ a, a < 256 → zh1 85 a < 256 ∧ (a / 2) &&& 85 ≤ a ∧ (a / 2 + 128) &&& 85 = (a / 2) &&& 85 := by decide +kernel
theorem zby2 : ∀ a, a < 256 → zh2 51 a < 256 ∧ (a / 4 + 64) &&& 51 = (a / 4) &&& 51 ∧ (a / 4 + 128) &&& 51 = (a / 4) &&& 51 ∧ (a / 4 + 192) &&& 51 = (a / 4) &&& 51 := by decide +kernel
theorem zby3 : ∀ a, a < 256 → zh2 51 (zh1 85 a) % 16 ≤ 4 ∧ zh2 51 (zh1 85 a) / 16 ≤ 4 ∧ zh2 51 (zh1 85 a) % 16 + zh2 51 (zh1 85 a) / 16 = zpop 8 a := by decide +kernel
theorem zh1_split {a h M : Nat} (ha : a < 256) : zh1 (85 + 256 * M) (a + 256 * h) = zh1 85 a + 256 * zh1 M h := by
  obtain ⟨h1, h2, h3⟩ := zby1 a ha
  have he : (a + 256 * h) / 2 = (a / 2 + 128 * (h % 2)) + 256 * (h / 2) := by omega
  have hm : (a / 2 + 128 * (h % 2)) &&& 85 = (a / 2) &&& 85 := by
    rcases (show h % 2 = 0 ∨ h % 2 = 1 by omega) with e | e <;> rw [e]
    · rfl
    · exact h3
  have hl : (h / 2) &&& M ≤ h := Nat.le_trans Nat.and_le_left (Nat.div_le_self h 2)
  unfold zh1
  rw [he, znd_split (by omega) (by decide), hm]
  omega
theorem zh2_split {a h M : Nat} (ha : a < 256) : zh2 (51 + 256 * M) (a + 256 * h) = zh2 51 a + 256 * zh2 M h := by
  obtain ⟨h1, h2, h3, h4⟩ := zby2 a ha
  have he : (a + 256 * h) / 4 = (a / 4 + 64 * (h % 4)) + 256 * (h / 4) := by omega
  have hm : (a / 4 + 64 * (h % 4)) &&& 51 = (a / 4) &&& 51 := by
    rcases (show h % 4 = 0 ∨ h % 4 = 1 ∨ h % 4 = 2 ∨ h % 4 = 3 by omega) with e | e | e | e <;> rw [e]
    · rfl
    · exact h2
    · exact h3
    · exact h4
  unfold zh2
  rw [he, znd_split ha (by decide), znd_split (by omega) (by decide), hm]
  omega
theorem zm15 (c : Nat) : c &&& 15 = c % 16 := Nat.and_two_pow_sub_one_eq_mod c 4
theorem zh3_split {c f M : Nat} (h1 : c % 16 ≤ 4) (h2 : c / 16 ≤ 4) (h3 : f % 16 ≤ 4) : zh3 (15 + 256 * M) (c + 256 * f) = (c % 16 + c / 16) + 256 * zh3 M f := by
  have he : (c + 256 * f) + (c + 256 * f) / 16 = (c + c / 16 + 16 * (f % 16)) + 256 * (f + f / 16) := by omega
  unfold zh3
  rw [he, znd_split (by omega) (by decide), zm15]
  omega
theorem zh3_0 (M : Nat) : zh3 M 0 = 0 := by unfold zh3; simp
theorem zpop_cat : ∀ (n m a h : Nat), a < 2 ^ n → zpop (n + m) (a + 2 ^ n * h) = zpop n a + zpop m h
  | 0, m, a, h, ha => by
    have : a = 0 := by simp at ha; exact ha
    subst this
    simp [zpop]
  | n + 1, m, a, h, ha => by
    rw [Nat.pow_succ] at ha ⊢
    rw [Nat.add_right_comm n 1 m]
    show (a + 2 ^ n * 2 * h) % 2 + zpop (n + m) ((a + 2 ^ n * 2 * h) / 2) = (a % 2 + zpop n (a / 2)) + zpop m h
    have h1 : (a + 2 ^ n * 2 * h) % 2 = a % 2 := by rw [Nat.mul_right_comm, Nat.add_mul_mod_self_right]
    have h2 : (a + 2 ^ n * 2 * h) / 2 = a / 2 + 2 ^ n * h := by rw [Nat.mul_right_comm, Nat.add_mul_div_right _ _ (by decide)]
    rw [h1, h2, zpop_cat n m (a / 2) h (by omega)]
    omega
theorem zfin24 {A B C : Nat} (hA : A ≤ 8) (hB : B ≤ 8) (hC : C ≤ 8) : (A + 256 * (B + 256 * C) + (A + 256 * (B + 256 * C)) / 256 + (A + 256 * (B + 256 * C) + (A + 256 * (B + 256 * C)) / 256) / 65536) % 64 = A + (B + C) := by
  have h1 : (A + 256 * (B + 256 * C)) / 256 = B + 256 * C := by omega
  rw [h1]
  have h2 : (A + 256 * (B + 256 * C) + (B + 256 * C)) / 65536 = C := by omega
  rw [h2]
  omega
theorem zpop_24 {x : Nat} (hx : x < 16777216) : (let t := zh3 252645135 (zh2 858993459 (zh1 1431655765 x)); let u := t + t / 256; (u + u / 65536) % 64) = zpop 24 x := by
  obtain ⟨a, b, c, ha, hb, hc, rfl⟩ : ∃ a b c : Nat, a < 256 ∧ b < 256 ∧ c < 256 ∧ x = a + 256 * (b + 256 * c) := ⟨x % 256, x / 256 % 256, x / 65536, by omega, by omega, by omega, by omega⟩
  obtain ⟨a1, a2, a3⟩ := zby3 a ha
  obtain ⟨b1, b2, b3⟩ := zby3 b hb
  obtain ⟨c1, c2, c3⟩ := zby3 c hc
  have ea := (zby1 a ha).1
  have eb := (zby1 b hb).1
  have ec := (zby1 c hc).1
  have e1 : zh1 1431655765 (a + 256 * (b + 256 * c)) = zh1 85 a + 256 * (zh1 85 b + 256 * (zh1 85 c + 256 * 0)) := by
    rw [show 1431655765 = 85 + 256 * (85 + 256 * (85 + 256 * 85)) from rfl, zh1_split ha, zh1_split hb, show c = c + 256 * 0 from rfl, zh1_split hc]
    rfl
  have e2 : zh2 858993459 (zh1 85 a + 256 * (zh1 85 b + 256 * (zh1 85 c + 256 * 0))) = zh2 51 (zh1 85 a) + 256 * (zh2 51 (zh1 85 b) + 256 * (zh2 51 (zh1 85 c) + 256 * 0)) := by
    rw [show 858993459 = 51 + 256 * (51 + 256 * (51 + 256 * 51)) from rfl, zh2_split ea, zh2_split eb, zh2_split ec]
    rfl
  have e3 : zh3 252645135 (zh2 51 (zh1 85 a) + 256 * (zh2 51 (zh1 85 b) + 256 * (zh2 51 (zh1 85 c) + 256 * 0))) = zpop 8 a + 256 * (zpop 8 b + 256 * zpop 8 c) := by
    rw [show 252645135 = 15 + 256 * (15 + 256 * (15 + 256 * 15)) from rfl, zh3_split a1 a2 (by omega), zh3_split b1 b2 (by omega), zh3_split c1 c2 (by omega), zh3_0, a3, b3, c3, Nat.mul_zero, Nat.add_zero]
  show (zh3 252645135 (zh2 858993459 (zh1 1431655765 (a + 256 * (b + 256 * c)))) + zh3 252645135 (zh2 858993459 (zh1 1431655765 (a + 256 * (b + 256 * c)))) / 256 + (zh3 252645135 (zh2 858993459 (zh1 1431655765 (a + 256 * (b + 256 * c)))) + zh3 252645135 (zh2 858993459 (zh1 1431655765 (a + 256 * (b + 256 * c)))) / 256) / 65536) % 64 = _
  rw [e1, e2, e3]
  have p1 : zpop 8 a ≤ 8 := by omega
  have p2 : zpop 8 b ≤ 8 := by omega
  have p3 : zpop 8 c ≤ 8 := by omega
  have hp : zpop 24 (a + 256 * (b + 256 * c)) = zpop 8 a + (zpop 8 b + zpop 8 c) := by
    have q1 := zpop_cat 8 16 a (b + 256 * c) ha
    have q2 := zpop_cat 8 8 b c hb
    rw [← q2]
    exact q1
  rw [hp]
  exact zfin24 p1 p2 p3
/-- the lowest bit goes -/
theorem zlow_pop : ∀ (n x : Nat), x < 2 ^ n → x ≠ 0 → zpop n (x &&& (x - 1)) + 1 = zpop n x
  | 0, x, h, h0 => by simp at h; exact absurd h h0
  | n + 1, x, h, h0 => by
    rw [Nat.pow_succ] at h
    unfold zpop
    rw [Nat.and_div_two]
    by_cases hb : x % 2 = 1
    · have e1 : (x - 1) / 2 = x / 2 := by omega
      have e2 : (x &&& (x - 1)) % 2 = 0 := by
        have : ¬ ((x &&& (x - 1)) % 2 = 1) := by rw [Nat.and_mod_two_eq_one]; omega
        omega
      rw [e1, e2, Nat.and_self, hb]
      omega
    · have e1 : (x - 1) / 2 = x / 2 - 1 := by omega
      have e2 : (x &&& (x - 1)) % 2 = 0 := by
        have : ¬ ((x &&& (x - 1)) % 2 = 1) := by rw [Nat.and_mod_two_eq_one]; omega
        omega
      rw [e1, e2]
      have := zlow_pop n (x / 2) (by omega) (by omega)
      omega
