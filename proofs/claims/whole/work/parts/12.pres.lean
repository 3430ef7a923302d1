/-! WHAT A STEP KEEPS: numbers within their kinds, the memory's own law, its growth -/
def zIv (L : Nat) (xs : Nat → Int) (σ : zS) : Prop := 9 ≤ σ.1 ∧ zOK (zB L xs) σ
theorem z_il {x : Int} (h : z32 x) : z64 x := by unfold z32 at h; unfold z64; omega
theorem z_c16 (x : Int) : z32 (x % 65536) := by unfold z32; omega
theorem z_b8 (x : Int) : z32 ((x + 128) % 256 - 128) := by unfold z32; omega
theorem z32_max {x y : Int} (hx : z32 x) (hy : z32 y) : z32 (max x y) := by unfold z32 at *; omega
theorem z32_min {x y : Int} (hx : z32 x) (hy : z32 y) : z32 (min x y) := by unfold z32 at *; omega
theorem zcmp_in (x y : Int) : z32 (zcmp x y) := by
  by_cases h1 : x < y
  · unfold zcmp z32; rw [if_pos h1]; omega
  · unfold zcmp z32; rw [if_neg h1]; split <;> omega
theorem zsw_some {x : Int} {d : Nat} {k : Nat → zO} {r : zV × zS} : ∀ (ts : List Int) (lo : Int), zsw x d k lo ts = some r → ∃ t, k t = some r
  | [], _, h => ⟨_, h⟩
  | t :: ts, lo, h => by
    unfold zsw at h
    split at h
    · exact ⟨_, h⟩
    · exact zsw_some ts _ h
theorem zlk_some {x : Int} {d : Nat} {k : Nat → zO} {r : zV × zS} : ∀ (ts : List (Int × Int)), zlk x d k ts = some r → ∃ t, k t = some r
  | [], h => ⟨_, h⟩
  | t :: ts, h => by
    unfold zlk at h
    split at h
    · exact ⟨_, h⟩
    · exact zlk_some ts h
theorem zbI_some {o : zO} {f : Int → zS → zO} {r : zV × zS} (h : zbI o f = some r) : ∃ x σ, o = some (zI x, σ) ∧ f x σ = some r := by
  unfold zbI at h
  split at h
  · exact ⟨_, _, rfl, h⟩
  · cases h
theorem zbL_some {o : zO} {f : Int → zS → zO} {r : zV × zS} (h : zbL o f = some r) : ∃ x σ, o = some (zL x, σ) ∧ f x σ = some r := by
  unfold zbL at h
  split at h
  · exact ⟨_, _, rfl, h⟩
  · cases h
theorem zbA_some {o : zO} {f : Nat → zS → zO} {r : zV × zS} (h : zbA o f = some r) : ∃ x σ, o = some (zA x, σ) ∧ f x σ = some r := by
  unfold zbA at h
  split at h
  · exact ⟨_, _, rfl, h⟩
  · cases h
theorem zbV_some {o : zO} {f : zS → zO} {r : zV × zS} (h : zbV o f = some r) : ∃ u σ, o = some (.inr (.inr (.inr u)), σ) ∧ f σ = some r := by
  unfold zbV at h
  split at h
  · exact ⟨_, _, rfl, h⟩
  · cases h
theorem zck_bi {j k : Nat} {v : Int} (h : zck j k (.bipush v) = true) : z32 v := by
  simp only [zck, Bool.and_eq_true, decide_eq_true_eq] at h
  exact h.1
theorem zck_si {j k : Nat} {v : Int} (h : zck j k (.sipush v) = true) : z64 v := by
  simp only [zck, Bool.and_eq_true, decide_eq_true_eq] at h
  exact h.1
theorem zck_ic {j k : Nat} {v : Int} (h : zck j k (.iconst v) = true) : z32 v := by
  simp only [zck] at h
  split at h
  · simp only [Bool.and_eq_true, decide_eq_true_eq] at h
    rw [h.1.2]
    exact ⟨by decide, by decide⟩
  · cases h
theorem zck_pf {j k f : Nat} (h : zck j k (.putfield f) = true) : f / 128 < 10 ∧ f / 4 % 32 < znf (f / 128) ∧ (f % 4 = zft (f / 128) (f / 4 % 32) ∨ (f % 4 = 3 ∧ (zFl (f / 128) (f / 4 % 32)).2.2.1 = "Z")) := by
  simp only [zck] at h
  split at h
  · simp only [Bool.and_eq_true, Bool.or_eq_true, decide_eq_true_eq, zfl] at h
    obtain ⟨⟨⟨-, ⟨h1, h2⟩, -⟩, h3⟩, -⟩ := h
    exact ⟨h1, h2, by rcases h3 with h3 | h3; exact Or.inr h3; exact Or.inl h3.1⟩
  · cases h
theorem zfZ_all : (List.range 10).all (fun c => (List.range (znf c)).all (fun k => !decide ((zFl c k).2.2.1 = "Z") || zft c k == 0)) = true := by decide +kernel
theorem zfZ {c k : Nat} (hc : c < 10) (hk : k < znf c) (h : (zFl c k).2.2.1 = "Z") : zft c k = 0 := by
  have h1 := List.all_eq_true.mp zfZ_all c (List.mem_range.mpr hc)
  have h2 := List.all_eq_true.mp h1 k (List.mem_range.mpr hk)
  rw [h] at h2
  simpa using h2
theorem zlg_f {c k t : Nat} (hc : c < 10) (ht : t = 0 ∨ t = 3) (hf : t = zft c k ∨ (t = 3 ∧ (zFl c k).2.2.1 = "Z")) (hk : k < znf c := by assumption) : zlg (c + 1) k = false := by
  have h0 : zft c k ≠ 1 := by
    rcases hf with h | h
    · omega
    · rw [zfZ hc hk h.2]; decide
  unfold zlg
  simp only [Nat.add_sub_cancel]
  have e : (zft c k == 1) = false := by simpa using h0
  rw [e]
  have : (c + 1 == 22) = false := by simp; omega
  rw [this]
  simp
theorem zlg_t {c k t : Nat} (hc : c < 10) (ht : t = 1) (hf : t = zft c k ∨ (t = 3 ∧ (zFl c k).2.2.1 = "Z")) : zlg (c + 1) k = true := by
  have h0 : zft c k = 1 := by omega
  unfold zlg
  simp only [Nat.add_sub_cancel]
  rw [h0]
  have : c + 1 < 20 := by omega
  simp [this]
theorem zck_mn {j k c n : Nat} (h : zck j k (.multianewarray c n) = true) : c < 10 ∧ n ≤ 100000 := by
  simp only [zck] at h
  split at h
  · next q e hq =>
    simp only [Bool.and_eq_true, decide_eq_true_eq] at h
    have hc : c < 10 := (List.getElem?_eq_some_iff.mp hq).1
    refine ⟨hc, ?_⟩
    obtain ⟨ty, -, -, e2⟩ := zty hq
    rw [h.1.1.1.2, e2]
    have : ∀ c, c < 10 → znf c ≤ 100000 := by decide
    exact this c hc
  · cases h
theorem zck_an {j k t : Nat} (h : zck j k (.anewarray t) = true) : 20 ≤ t ∧ t ≤ 25 := by
  simp only [zck] at h
  split at h
  · simp only [Bool.and_eq_true, decide_eq_true_eq] at h; omega
  · simp only [Bool.and_eq_true, decide_eq_true_eq] at h; omega
  · simp only [Bool.and_eq_true, decide_eq_true_eq] at h; omega
  · simp only [Bool.and_eq_true, decide_eq_true_eq] at h; omega
  · simp only [Bool.and_eq_true, Bool.or_eq_true, decide_eq_true_eq] at h; omega
  · cases h
theorem z_len {L : Nat} {xs : Nat → Int} {σ : zS} (h : zOK (zB L xs) σ) (a : Nat) : z32 ((σ.2.2.1 a).2 : Nat) := by
  have := h.2.2.2.1 a
  unfold z32
  omega
theorem zrd32 {L : Nat} {xs : Nat → Int} {σ : zS} (h : zOK (zB L xs) σ) {a : Nat} (hk : 20 ≤ (σ.2.2.1 a).1 ∧ (σ.2.2.1 a).1 ≠ 22) (j : Nat) : z32 (σ.2.2.2.2 a j) := by
  refine zcn_of32 ?_ (h.2.2.2.2 a j)
  unfold zlg
  have e1 : ((σ.2.2.1 a).1 == 22) = false := by simpa using hk.2
  have e2 : decide ((σ.2.2.1 a).1 < 20) = false := by simpa using hk.1
  rw [e1, e2]
  rfl
theorem zrd64 {L : Nat} {xs : Nat → Int} {σ : zS} (h : zOK (zB L xs) σ) {a : Nat} (hk : (σ.2.2.1 a).1 = 22) (j : Nat) : z64 (σ.2.2.2.2 a j) := by
  refine zcn_of64 ?_ (h.2.2.2.2 a j)
  unfold zlg
  rw [hk]
  rfl
theorem zcpy_cn {L : Nat} {xs : Nat → Int} {σ : zS} (h : zOK (zB L xs) σ) {a b : Nat} (ha : (σ.2.2.1 a).1 = 20) (hb : (σ.2.2.1 b).1 = 20) (sp dp n j : Nat) : zcn (σ.2.2.1 a).1 j (va_cpy (σ.2.2.2.2 b) (σ.2.2.2.2 a) sp dp n j) := by
  rw [ha]
  refine zcn_32 rfl ?_
  unfold va_cpy
  split
  · exact zrd32 h (by omega) _
  · exact zrd32 h (by omega) _
theorem zrd_can {j k f : Nat} {L : Nat} {xs : Nat → Int} {σ : zS} {a : Nat} (hck : zck j k (.getfield f) = true) (h : zOK (zB L xs) σ) (hc : (σ.2.2.1 a).1 = f / 128 + 1) : zcan (zrd (f % 4) (σ.2.2.2.1 a (f / 4 % 32)) (σ.2.2.2.2 a (f / 4 % 32))) := by
  have hm := h.2.2.2.2 a (f / 4 % 32)
  simp only [zck] at hck
  split at hck
  · simp only [Bool.and_eq_true, Bool.or_eq_true, decide_eq_true_eq, zfl] at hck
    rcases hck.2 with (⟨⟨⟨h1, h2⟩, -⟩, h3⟩ | ⟨h1, -⟩) | ⟨h1, -⟩
    · rw [hc] at hm
      unfold zrd
      split
      · next e => exact zcn_of64 (zlg_t h1 e (Or.inl h3)) hm
      · trivial
      · next e1 e2 =>
        refine zcn_of32 ?_ hm
        unfold zlg
        simp only [Nat.add_sub_cancel]
        have e : (zft (f / 128) (f / 4 % 32) == 1) = false := by simp; exact fun e4 => e1 (h3.trans e4)
        have e3 : (f / 128 + 1 == 22) = false := by simp; omega
        rw [e, e3]
        simp
    · subst h1; exact trivial
    · subst h1
      rw [hc] at hm
      exact zcn_of32 (by decide) hm
  · cases hck
set_option maxHeartbeats 4000000 in
theorem zstp_pres {L : Nat} {xs : Nat → Int} {j : Nat} {cal : Nat → List zV → zS → zO} {k : Nat → List zV → List zV → zS → zO} {ins : Instr} {pc : Nat} {ls st : List zV} {σ : zS} {r : zV × zS} {G : Prop} (hck : zck j pc ins = true) (hI : zIv L xs σ) (hl : zcs ls) (hs : zcs st)
    (hk : ∀ pc ls st σ1, k pc ls st σ1 = some r → zIv L xs σ1 → σ.1 ≤ σ1.1 → σ.2.1 ≤ σ1.2.1 → zcs ls → zcs st → G)
    (hc : ∀ i as va σ1, zcs as → cal i as σ = some (va, σ1) → zcan va ∧ zIv L xs σ1 ∧ σ.1 ≤ σ1.1 ∧ σ.2.1 ≤ σ1.2.1)
    (hret : ∀ v, zcan v → r = (v, σ) → G) (h : zstp cal k ins pc ls st σ = some r) : G := by
  cases ins
  case iload n =>
    simp only [zstp] at h
    split at h
    · next x e => exact hk _ _ _ _ h hI (Nat.le_refl _) (Nat.le_refl _) hl ⟨zcs_nth hl e (by simp), hs⟩
    · cases h
  case lload n =>
    simp only [zstp] at h
    split at h
    · next x e => exact hk _ _ _ _ h hI (Nat.le_refl _) (Nat.le_refl _) hl ⟨zcs_nth hl e (by simp), hs⟩
    · cases h
  case aload n =>
    simp only [zstp] at h
    split at h
    · next x e => exact hk _ _ _ _ h hI (Nat.le_refl _) (Nat.le_refl _) hl ⟨zcs_nth hl e (by simp), hs⟩
    · cases h
  case istore n =>
    simp only [zstp] at h
    split at h
    · exact hk _ _ _ _ h hI (Nat.le_refl _) (Nat.le_refl _) (zst1_cs hl hs.1) hs.2
    · cases h
  case lstore n =>
    simp only [zstp] at h
    split at h
    · exact hk _ _ _ _ h hI (Nat.le_refl _) (Nat.le_refl _) (zst2_cs hl hs.1) hs.2
    · cases h
  case astore n =>
    simp only [zstp] at h
    split at h
    · exact hk _ _ _ _ h hI (Nat.le_refl _) (Nat.le_refl _) (zst1_cs hl hs.1) hs.2
    · cases h
  case bipush v =>
    simp only [zstp] at h
    exact hk _ _ _ _ h hI (Nat.le_refl _) (Nat.le_refl _) hl ⟨zck_bi hck, hs⟩
  case iconst v =>
    simp only [zstp] at h
    exact hk _ _ _ _ h hI (Nat.le_refl _) (Nat.le_refl _) hl ⟨zck_ic hck, hs⟩
  case sipush v =>
    simp only [zstp] at h
    exact hk _ _ _ _ h hI (Nat.le_refl _) (Nat.le_refl _) hl ⟨zck_si hck, hs⟩
  case aconst_null =>
    simp only [zstp] at h
    exact hk _ _ _ _ h hI (Nat.le_refl _) (Nat.le_refl _) hl ⟨trivial, hs⟩
  case ldc q =>
    simp only [zstp] at h
    exact hk _ _ _ _ h hI (Nat.le_refl _) (Nat.le_refl _) hl ⟨trivial, hs⟩
  case getstatic q =>
    simp only [zstp] at h
    exact hk _ _ _ _ h hI (Nat.le_refl _) (Nat.le_refl _) hl ⟨trivial, hs⟩
  case iinc n c =>
    simp only [zstp] at h
    split at h
    · exact hk _ _ _ _ h hI (Nat.le_refl _) (Nat.le_refl _) (zst1_cs hl (zw32_in _)) hs
    · cases h
  case iadd =>
    simp only [zstp] at h
    split at h
    · next y x st' => exact hk _ _ _ _ h hI (Nat.le_refl _) (Nat.le_refl _) hl ⟨zw32_in _, hs.2.2⟩
    · cases h
  case isub =>
    simp only [zstp] at h
    split at h
    · next y x st' => exact hk _ _ _ _ h hI (Nat.le_refl _) (Nat.le_refl _) hl ⟨zw32_in _, hs.2.2⟩
    · cases h
  case imul =>
    simp only [zstp] at h
    split at h
    · next y x st' => exact hk _ _ _ _ h hI (Nat.le_refl _) (Nat.le_refl _) hl ⟨zw32_in _, hs.2.2⟩
    · cases h
  case iand =>
    simp only [zstp] at h
    split at h
    · next y x st' => exact hk _ _ _ _ h hI (Nat.le_refl _) (Nat.le_refl _) hl ⟨z32_toInt _, hs.2.2⟩
    · cases h
  case ior =>
    simp only [zstp] at h
    split at h
    · next y x st' => exact hk _ _ _ _ h hI (Nat.le_refl _) (Nat.le_refl _) hl ⟨z32_toInt _, hs.2.2⟩
    · cases h
  case ixor =>
    simp only [zstp] at h
    split at h
    · next y x st' => exact hk _ _ _ _ h hI (Nat.le_refl _) (Nat.le_refl _) hl ⟨z32_toInt _, hs.2.2⟩
    · cases h
  case ishl =>
    simp only [zstp] at h
    split at h
    · next y x st' => exact hk _ _ _ _ h hI (Nat.le_refl _) (Nat.le_refl _) hl ⟨z32_toInt _, hs.2.2⟩
    · cases h
  case ishr =>
    simp only [zstp] at h
    split at h
    · next y x st' => exact hk _ _ _ _ h hI (Nat.le_refl _) (Nat.le_refl _) hl ⟨z32_toInt _, hs.2.2⟩
    · cases h
  case iushr =>
    simp only [zstp] at h
    split at h
    · next y x st' => exact hk _ _ _ _ h hI (Nat.le_refl _) (Nat.le_refl _) hl ⟨z32_toInt _, hs.2.2⟩
    · cases h
  case ladd =>
    simp only [zstp] at h
    split at h
    · next y x st' => exact hk _ _ _ _ h hI (Nat.le_refl _) (Nat.le_refl _) hl ⟨zw64_in _, hs.2.2⟩
    · cases h
  case lsub =>
    simp only [zstp] at h
    split at h
    · next y x st' => exact hk _ _ _ _ h hI (Nat.le_refl _) (Nat.le_refl _) hl ⟨zw64_in _, hs.2.2⟩
    · cases h
  case lmul =>
    simp only [zstp] at h
    split at h
    · next y x st' => exact hk _ _ _ _ h hI (Nat.le_refl _) (Nat.le_refl _) hl ⟨zw64_in _, hs.2.2⟩
    · cases h
  case lor =>
    simp only [zstp] at h
    split at h
    · next y x st' => exact hk _ _ _ _ h hI (Nat.le_refl _) (Nat.le_refl _) hl ⟨z64_toInt _, hs.2.2⟩
    · cases h
  case lshl =>
    simp only [zstp] at h
    split at h
    · next y x st' => exact hk _ _ _ _ h hI (Nat.le_refl _) (Nat.le_refl _) hl ⟨z64_toInt _, hs.2.2⟩
    · cases h
  case lshr =>
    simp only [zstp] at h
    split at h
    · next y x st' => exact hk _ _ _ _ h hI (Nat.le_refl _) (Nat.le_refl _) hl ⟨z64_toInt _, hs.2.2⟩
    · cases h
  case idiv =>
    simp only [zstp] at h
    split at h
    · next y x st' =>
      split at h
      · cases h
      · exact hk _ _ _ _ h hI (Nat.le_refl _) (Nat.le_refl _) hl ⟨zw32_in _, hs.2.2⟩
    · cases h
  case irem =>
    simp only [zstp] at h
    split at h
    · next y x st' =>
      split at h
      · cases h
      · exact hk _ _ _ _ h hI (Nat.le_refl _) (Nat.le_refl _) hl ⟨z32_tmod hs.2.1, hs.2.2⟩
    · cases h
  case ldiv =>
    simp only [zstp] at h
    split at h
    · next y x st' =>
      split at h
      · cases h
      · exact hk _ _ _ _ h hI (Nat.le_refl _) (Nat.le_refl _) hl ⟨zw64_in _, hs.2.2⟩
    · cases h
  case lrem =>
    simp only [zstp] at h
    split at h
    · next y x st' =>
      split at h
      · cases h
      · exact hk _ _ _ _ h hI (Nat.le_refl _) (Nat.le_refl _) hl ⟨z64_tmod hs.2.1, hs.2.2⟩
    · cases h
  case fadd =>
    simp only [zstp] at h
    split at h
    · next y x st' =>
      split at h
      · exact hk _ _ _ _ h hI (Nat.le_refl _) (Nat.le_refl _) hl ⟨z32_max hs.2.1 hs.1, hs.2.2⟩
      · cases h
    · cases h
  case fsub =>
    simp only [zstp] at h
    split at h
    · next y x st' =>
      split at h
      · exact hk _ _ _ _ h hI (Nat.le_refl _) (Nat.le_refl _) hl ⟨z32_min hs.2.1 hs.1, hs.2.2⟩
      · cases h
    · cases h
  case ineg =>
    simp only [zstp] at h
    split at h
    · next x st' => exact hk _ _ _ _ h hI (Nat.le_refl _) (Nat.le_refl _) hl ⟨zw32_in _, hs.2⟩
    · cases h
  case lneg =>
    simp only [zstp] at h
    split at h
    · next x st' => exact hk _ _ _ _ h hI (Nat.le_refl _) (Nat.le_refl _) hl ⟨zw64_in _, hs.2⟩
    · cases h
  case i2l =>
    simp only [zstp] at h
    split at h
    · next x st' => exact hk _ _ _ _ h hI (Nat.le_refl _) (Nat.le_refl _) hl ⟨z_il hs.1, hs.2⟩
    · cases h
  case l2i =>
    simp only [zstp] at h
    split at h
    · next x st' => exact hk _ _ _ _ h hI (Nat.le_refl _) (Nat.le_refl _) hl ⟨zw32_in _, hs.2⟩
    · cases h
  case i2c =>
    simp only [zstp] at h
    split at h
    · next x st' => exact hk _ _ _ _ h hI (Nat.le_refl _) (Nat.le_refl _) hl ⟨z_c16 x, hs.2⟩
    · cases h
  case i2b =>
    simp only [zstp] at h
    split at h
    · next x st' => exact hk _ _ _ _ h hI (Nat.le_refl _) (Nat.le_refl _) hl ⟨z_b8 x, hs.2⟩
    · cases h
  case lcmp =>
    simp only [zstp] at h
    split at h
    · next y x st' => exact hk _ _ _ _ h hI (Nat.le_refl _) (Nat.le_refl _) hl ⟨zcmp_in x y, hs.2.2⟩
    · cases h
  case goto t =>
    simp only [zstp] at h
    exact hk _ _ _ _ h hI (Nat.le_refl _) (Nat.le_refl _) hl hs
  case ifCond c t =>
    simp only [zstp] at h
    split at h
    · cases c <;> simp only at h <;> split at h <;> exact hk _ _ _ _ h hI (Nat.le_refl _) (Nat.le_refl _) hl hs.2
    · cases h
  case if_icmp c t =>
    simp only [zstp] at h
    split at h
    · cases c <;> simp only at h <;> split at h <;> exact hk _ _ _ _ h hI (Nat.le_refl _) (Nat.le_refl _) hl hs.2.2
    · cases h
  case ifnull t =>
    simp only [zstp] at h
    split at h
    · split at h
      · exact hk _ _ _ _ h hI (Nat.le_refl _) (Nat.le_refl _) hl hs.2
      · split at h
        · cases h
        · exact hk _ _ _ _ h hI (Nat.le_refl _) (Nat.le_refl _) hl hs.2
    · cases h
  case ifnonnull t =>
    simp only [zstp] at h
    split at h
    · split at h
      · exact hk _ _ _ _ h hI (Nat.le_refl _) (Nat.le_refl _) hl hs.2
      · split at h
        · cases h
        · exact hk _ _ _ _ h hI (Nat.le_refl _) (Nat.le_refl _) hl hs.2
    · cases h
  case tableswitch a lo hi offs =>
    simp only [zstp] at h
    split at h
    · obtain ⟨t, ht⟩ := zsw_some _ _ h
      exact hk _ _ _ _ ht hI (Nat.le_refl _) (Nat.le_refl _) hl hs.2
    · cases h
  case lookupswitch a ps =>
    simp only [zstp] at h
    split at h
    · obtain ⟨t, ht⟩ := zlk_some _ h
      exact hk _ _ _ _ ht hI (Nat.le_refl _) (Nat.le_refl _) hl hs.2
    · cases h
  case dup =>
    simp only [zstp] at h
    split at h
    · exact hk _ _ _ _ h hI (Nat.le_refl _) (Nat.le_refl _) hl ⟨hs.1, hs⟩
    · exact hk _ _ _ _ h hI (Nat.le_refl _) (Nat.le_refl _) hl ⟨hs.1, hs⟩
    · cases h
  case dup2 =>
    simp only [zstp] at h
    split at h
    · exact hk _ _ _ _ h hI (Nat.le_refl _) (Nat.le_refl _) hl ⟨hs.1, hs⟩
    · exact hk _ _ _ _ h hI (Nat.le_refl _) (Nat.le_refl _) hl ⟨hs.1, hs.2.1, hs⟩
    · exact hk _ _ _ _ h hI (Nat.le_refl _) (Nat.le_refl _) hl ⟨hs.1, hs.2.1, hs⟩
    · cases h
  case pop =>
    simp only [zstp] at h
    split at h
    · exact hk _ _ _ _ h hI (Nat.le_refl _) (Nat.le_refl _) hl hs.2
    · exact hk _ _ _ _ h hI (Nat.le_refl _) (Nat.le_refl _) hl hs.2
    · cases h
  case getfield f =>
    simp only [zstp] at h
    split at h
    · split at h
      · next c => exact hk _ _ _ _ h hI (Nat.le_refl _) (Nat.le_refl _) hl ⟨zrd_can hck hI.2 c, hs.2⟩
      · cases h
    · cases h
  case putfield f =>
    simp only [zstp] at h
    obtain ⟨h10, hnz, hft⟩ := zck_pf hck
    split at h
    · next _ e =>
      split at h
      · next c => exact hk _ _ _ _ h ⟨hI.1, hI.2.put (hI.2.in (by omega) (by omega)).1 (by rw [c]; exact zcn_32 (zlg_f h10 (Or.inl e) hft) hs.1)⟩ (Nat.le_refl _) (Nat.le_refl _) hl hs.2.2
      · cases h
    · next _ e =>
      split at h
      · next c => exact hk _ _ _ _ h ⟨hI.1, hI.2.put (hI.2.in (by omega) (by omega)).1 (by rw [c]; exact zcn_64 (zlg_t h10 e hft) hs.1)⟩ (Nat.le_refl _) (Nat.le_refl _) hl hs.2.2
      · cases h
    · next _ e =>
      split at h
      · next c => exact hk _ _ _ _ h ⟨hI.1, hI.2.putR (hI.2.in (by omega) (by omega)).1⟩ (Nat.le_refl _) (Nat.le_refl _) hl hs.2.2
      · cases h
    · next _ e =>
      split at h
      · next c =>
        split at h
        · exact hk _ _ _ _ h ⟨hI.1, hI.2.put (hI.2.in (by omega) (by omega)).1 (by rw [c]; exact zcn_32 (zlg_f h10 (Or.inr e) hft) hs.1)⟩ (Nat.le_refl _) (Nat.le_refl _) hl hs.2.2
        · cases h
      · cases h
    · cases h
  case multianewarray c n =>
    simp only [zstp] at h
    obtain ⟨h10, hn⟩ := zck_mn hck
    exact hk _ _ _ _ h ⟨by show 9 ≤ σ.1 + 1; have := hI.1; omega, hI.2.new hI.1 (Or.inl ⟨by omega, by omega⟩) hn (fun j => zcn_0 _ j)⟩ (Nat.le_succ _) (Nat.le_add_right _ _) hl ⟨trivial, hs⟩
  case anewarray t =>
    simp only [zstp] at h
    have ht := zck_an hck
    split at h
    · split at h
      · next c => exact hk _ _ _ _ h ⟨by show 9 ≤ σ.1 + 1; have := hI.1; omega, hI.2.new hI.1 (Or.inr ⟨by omega, by omega⟩) (by omega) (fun j => zcn_0 _ j)⟩ (Nat.le_succ _) (Nat.le_add_right _ _) hl ⟨trivial, hs.2⟩
      · cases h
    · cases h
  case arraylength =>
    simp only [zstp] at h
    split at h
    · split at h
      · exact hk _ _ _ _ h hI (Nat.le_refl _) (Nat.le_refl _) hl ⟨z_len hI.2 _, hs.2⟩
      · cases h
    · cases h
  case iaload =>
    simp only [zstp] at h
    split at h
    · split at h
      · next c => exact hk _ _ _ _ h hI (Nat.le_refl _) (Nat.le_refl _) hl ⟨zrd32 hI.2 (by omega) _, hs.2.2⟩
      · cases h
    · cases h
  case caload =>
    simp only [zstp] at h
    split at h
    · split at h
      · next c => exact hk _ _ _ _ h hI (Nat.le_refl _) (Nat.le_refl _) hl ⟨zrd32 hI.2 (by omega) _, hs.2.2⟩
      · cases h
    · cases h
  case baload =>
    simp only [zstp] at h
    split at h
    · split at h
      · next c => exact hk _ _ _ _ h hI (Nat.le_refl _) (Nat.le_refl _) hl ⟨zrd32 hI.2 (by omega) _, hs.2.2⟩
      · cases h
    · cases h
  case laload =>
    simp only [zstp] at h
    split at h
    · split at h
      · next c => exact hk _ _ _ _ h hI (Nat.le_refl _) (Nat.le_refl _) hl ⟨zrd64 hI.2 (by omega) _, hs.2.2⟩
      · cases h
    · cases h
  case aaload =>
    simp only [zstp] at h
    split at h
    · split at h
      · next c => exact hk _ _ _ _ h hI (Nat.le_refl _) (Nat.le_refl _) hl ⟨trivial, hs.2.2⟩
      · cases h
    · cases h
  case iastore =>
    simp only [zstp] at h
    split at h
    · split at h
      · next c => exact hk _ _ _ _ h ⟨hI.1, hI.2.put (hI.2.in (by omega) (by omega)).1 (by rw [c.1]; exact zcn_32 rfl hs.1)⟩ (Nat.le_refl _) (Nat.le_refl _) hl hs.2.2.2
      · cases h
    · cases h
  case castore =>
    simp only [zstp] at h
    split at h
    · split at h
      · next c =>
        split at h
        · exact hk _ _ _ _ h ⟨hI.1, hI.2.put (hI.2.in (by omega) (by omega)).1 (by rw [c.1]; exact zcn_32 rfl hs.1)⟩ (Nat.le_refl _) (Nat.le_refl _) hl hs.2.2.2
        · cases h
      · cases h
    · cases h
  case bastore =>
    simp only [zstp] at h
    split at h
    · split at h
      · next c =>
        split at h
        · exact hk _ _ _ _ h ⟨hI.1, hI.2.put (hI.2.in (by omega) (by omega)).1 (by rw [c.1]; exact zcn_32 rfl hs.1)⟩ (Nat.le_refl _) (Nat.le_refl _) hl hs.2.2.2
        · cases h
      · cases h
    · cases h
  case lastore =>
    simp only [zstp] at h
    split at h
    · split at h
      · next c => exact hk _ _ _ _ h ⟨hI.1, hI.2.put (hI.2.in (by omega) (by omega)).1 (by rw [c.1]; exact zcn_64 rfl hs.1)⟩ (Nat.le_refl _) (Nat.le_refl _) hl hs.2.2.2
      · cases h
    · cases h
  case aastore =>
    simp only [zstp] at h
    split at h
    · split at h
      · next c => exact hk _ _ _ _ h ⟨hI.1, hI.2.putR (hI.2.in (by omega) (by omega)).1⟩ (Nat.le_refl _) (Nat.le_refl _) hl hs.2.2.2
      · cases h
    · cases h
  case monitorexit =>
    simp only [zstp] at h
    split at h
    · split at h
      · next c => exact hk _ _ _ _ h ⟨hI.1, hI.2.row (hI.2.in (by omega) (by omega)).1 (fun j => zcpy_cn hI.2 c.1.1 c.1.2 _ _ _ j)⟩ (Nat.le_refl _) (Nat.le_refl _) hl hs.2.2.2.2.2
      · cases h
    · cases h
  case swap =>
    simp only [zstp] at h
    split at h
    · split at h
      · next c => exact hk _ _ _ _ h ⟨by show 9 ≤ σ.1 + 1; have := hI.1; omega, hI.2.new hI.1 (Or.inr ⟨by omega, by omega⟩) (hI.2.2.2.2.1 _) (fun j => zcn_32 rfl (zrd32 hI.2 (by omega) _))⟩ (Nat.le_succ _) (Nat.le_add_right _ _) hl ⟨trivial, hs.2⟩
      · cases h
    · cases h
  case monitorenter =>
    simp only [zstp] at h
    split at h
    · split at h
      · exact hk _ _ _ _ h hI (Nat.le_refl _) (Nat.le_refl _) hl hs.2
      · cases h
    · cases h
  case checkcast q =>
    simp only [zstp] at h
    split at h
    · split at h
      · exact hk _ _ _ _ h hI (Nat.le_refl _) (Nat.le_refl _) hl hs
      · cases h
    · cases h
  case invokeinterface i nt =>
    simp only [zstp] at h
    have hd := zcs_drop (nt / 4) hs
    have ht := zcs_rev (zcs_take (nt / 4) hs)
    split at h
    · obtain ⟨x, σ1, e, h⟩ := zbI_some h
      obtain ⟨c1, c2, c3, c4⟩ := hc _ _ _ _ ht e
      exact hk _ _ _ _ h c2 c3 c4 hl ⟨c1, hd⟩
    · obtain ⟨x, σ1, e, h⟩ := zbL_some h
      obtain ⟨c1, c2, c3, c4⟩ := hc _ _ _ _ ht e
      exact hk _ _ _ _ h c2 c3 c4 hl ⟨c1, hd⟩
    · obtain ⟨x, σ1, e, h⟩ := zbA_some h
      obtain ⟨c1, c2, c3, c4⟩ := hc _ _ _ _ ht e
      exact hk _ _ _ _ h c2 c3 c4 hl ⟨c1, hd⟩
    · obtain ⟨x, σ1, e, h⟩ := zbV_some h
      obtain ⟨c1, c2, c3, c4⟩ := hc _ _ _ _ ht e
      exact hk _ _ _ _ h c2 c3 c4 hl hd
    · cases h
  case ireturn =>
    simp only [zstp] at h
    split at h
    · cases h; exact hret _ hs.1 rfl
    · cases h
  case lreturn =>
    simp only [zstp] at h
    split at h
    · cases h; exact hret _ hs.1 rfl
    · cases h
  case areturn =>
    simp only [zstp] at h
    split at h
    · cases h; exact hret _ hs.1 rfl
    · cases h
  case ret t =>
    simp only [zstp] at h
    split at h
    · split at h
      · cases h; exact hret _ hs.1 rfl
      · cases h
    · cases h
  case return_ =>
    simp only [zstp] at h
    split at h
    · cases h; exact hret zU trivial rfl
    · cases h
  all_goals (simp only [zstp] at h; cases h)
theorem zrun_pres {L : Nat} {xs : Nat → Int} (hck : ∀ j, zcm j) : ∀ (n d j pc : Nat) (ls st : List zV) (σ : zS) (r : zV × zS), zIv L xs σ → zcs ls → zcs st → zrun zPP n d j pc ls st σ = some r → zcan r.1 ∧ zIv L xs r.2 ∧ σ.1 ≤ r.2.1 ∧ σ.2.1 ≤ r.2.2.1 := by
  intro n
  induction n with
  | zero => intro d j pc ls st σ r _ _ _ h; cases h
  | succ n ih =>
    intro d j pc ls st σ r hI hl hs h
    rw [zrun_succ] at h
    refine zstp_pres (hck j pc) hI hl hs (fun pc' ls' st' σ1 h6 h1 h2 h3 h4 h5 => ?_) (fun i as va σ1 has e => ?_) (fun v hv e => ?_) h
    · obtain ⟨g1, g2, g3, g4⟩ := ih _ _ _ _ _ _ _ h1 h4 h5 h6
      exact ⟨g1, g2, by omega, by omega⟩
    · unfold zcaln at e
      cases d with
      | zero => cases e
      | succ d' =>
        simp only at e
        split at e
        · exact ih _ _ _ _ [] _ _ hI (zpad_cs (zexp_cs has)) trivial e
        · cases e
    · subst e
      exact ⟨hv, hI, Nat.le_refl _, Nat.le_refl _⟩
