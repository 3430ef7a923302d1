/-! A STEP OF THE MACHINE FOR A STEP OF THE SMALL MACHINE -/
theorem zm_maxS : Cond.static Lib.Math.max.name ∈ zGw := zhas_good (p := 563) rfl (by decide +kernel)
theorem zm_minS : Cond.static Lib.Math.min.name ∈ zGw := zhas_good (p := 480) rfl (by decide +kernel)
theorem zm_ini : Cond.initialized "java/lang/Math" ∈ zGw := zhas_good (p := 117) rfl (by decide +kernel)
theorem zm_maxC : Cond.code Lib.Math.max.name Lib.Math.max.code 2 (some .int) ∈ zGw := zhas_good (p := 564) rfl (by decide +kernel)
theorem zm_minC : Cond.code Lib.Math.min.name Lib.Math.min.code 2 (some .int) ∈ zGw := zhas_good (p := 481) rfl (by decide +kernel)
theorem zm_acN : Cond.native arraycopyName ∈ zGw := zhas_good (p := 693) rfl (by decide +kernel)
theorem zm_acS : Cond.static arraycopyName ∈ zGw := zhas_good (p := 692) rfl (by decide +kernel)
theorem zm_syI : Cond.initialized "java/lang/System" ∈ zGw := zhas_good (p := 126) rfl (by decide +kernel)
theorem zm_clS : Cond.sameMethod "[I" "java/lang/Object" "clone" "()Ljava/lang/Object;" ∈ zGw := zhas_good (p := 684) rfl (by decide +kernel)
theorem zm_clN : Cond.native ⟨"java/lang/Object", "clone", "()Ljava/lang/Object;"⟩ ∈ zGw := zhas_good (p := 685) rfl (by decide +kernel)
theorem zm_clI : Cond.instanceMethod ⟨"java/lang/Object", "clone", "()Ljava/lang/Object;"⟩ ∈ zGw := zhas_good (p := 686) rfl (by decide +kernel)
theorem zm_clV : Cond.selects "[I" ⟨"[I", "clone", "()Ljava/lang/Object;"⟩ ⟨"java/lang/Object", "clone", "()Ljava/lang/Object;"⟩ ∈ zGw := zhas_good (p := 687) rfl (by decide +kernel)
theorem zm_obI : Cond.instanceMethod objectInit ∈ zGw := zhas_good (p := 134) rfl (by decide +kernel)
theorem zm_obC : Cond.code objectInit ⟨#[0xb1]⟩ 1 none ∈ zGw := zhas_good (p := 135) rfl (by decide +kernel)
def zEnd (j pc : Nat) (v : zV) : Prop := (∃ x ty, v = zI x ∧ decode (zm j).2.1 pc = .ok (.ireturn, 1) ∧ (zm j).2.2.1 = some ty ∧ narrow ty (.int (Int32.ofInt x)) = .int (Int32.ofInt x)) ∨
  (∃ x, v = zL x ∧ decode (zm j).2.1 pc = .ok (.lreturn, 1) ∧ (zm j).2.2.1 = some .long) ∨
  (∃ a, v = zA a ∧ decode (zm j).2.1 pc = .ok (.areturn, 1) ∧ ∃ rt, (zm j).2.2.1 = some rt ∧ ((∃ n, rt = .object n) ∨ ∃ t, rt = .array t)) ∨
  (v = zU ∧ decode (zm j).2.1 pc = .ok (.return_, 1) ∧ (zm j).2.2.1 = none)
theorem zrk_ref {o : Option FieldType} (h : zrk o = 2) : ∃ rt, o = some rt ∧ ((∃ n, rt = .object n) ∨ ∃ t, rt = .array t) := by
  cases o with
  | none => cases h
  | some t => cases t <;> first | (cases h; done) | exact ⟨_, rfl, Or.inl ⟨_, rfl⟩⟩ | exact ⟨_, rfl, Or.inr ⟨_, rfl⟩⟩
theorem zn_char {x : Int} (h : 0 ≤ x ∧ x < 65536) : narrow .char (.int (Int32.ofInt x)) = .int (Int32.ofInt x) := by
  show Value.int ((Int32.ofInt x).toUInt32 % 65536).toInt32 = _
  rw [z_i2c, show x % 65536 = x by omega]
theorem zn_byte {x : Int} (h : -128 ≤ x ∧ x < 128) : narrow .byte (.int (Int32.ofInt x)) = .int (Int32.ofInt x) := by
  show Value.int ((Int32.ofInt x).toInt8.toInt32) = _
  rw [z_i2b, show (x + 128) % 256 - 128 = x by omega]
def zpush : zV → List zV → List zV
  | .inr (.inr (.inr _)), l => l
  | v, l => v :: l
theorem zpush_cs {v : zV} {l : List zV} (hv : zcan v) (hl : zcs l) : zcs (zpush v l) := by
  rcases v with x | x | x | x
  · exact ⟨hv, hl⟩
  · exact ⟨hv, hl⟩
  · exact ⟨hv, hl⟩
  · exact hl
theorem zpush_map {g : zG} {v : zV} {l : List zV} : (zpush v l).map (zv g) = zrs g v ++ l.map (zv g) := by
  rcases v with x | x | x | x <;> rfl
theorem zcpy_map (f h : Nat → Int) (sp dp n : Nat) : (fun j => Int32.ofInt (va_cpy f h sp dp n j)) = va_cpy (fun j => Int32.ofInt (f j)) (fun j => Int32.ofInt (h j)) sp dp n := by
  funext j
  unfold va_cpy
  split <;> rfl
theorem zft_le (c k : Nat) : zft c k ≤ 2 := by
  have h : ∀ l ∈ zftT, ∀ x ∈ l, x ≤ 2 := by decide
  have hn : ∀ (l : List Nat) (k : Nat), (∀ x ∈ l, x ≤ 2) → znth 0 l k ≤ 2 := by
    intro l
    induction l with
    | nil => intro k _; exact Nat.zero_le _
    | cons a l ih =>
      intro k hl
      cases k with
      | zero => exact hl a List.mem_cons_self
      | succ k => exact ih k (fun x hx => hl x (List.mem_cons_of_mem _ hx))
  have hm : ∀ (l : List (List Nat)) (c : Nat), (∀ y ∈ l, ∀ x ∈ y, x ≤ 2) → ∀ x ∈ znth [] l c, x ≤ 2 := by
    intro l
    induction l with
    | nil => intro c _ x hx; cases hx
    | cons a l ih =>
      intro c hl
      cases c with
      | zero => exact hl a List.mem_cons_self
      | succ c => exact ih c (fun y hy => hl y (List.mem_cons_of_mem _ hy))
  exact hn _ _ (hm _ _ h)
theorem zdef {g : zG} {L : Nat} {xs : Nat → Int} {U : State} {H : Heap} {t : Nat} {ty : FieldType} (hR : zRO g L xs U H) (h : zfok t ty = true) : defaultValue ty = zv g (zrd t 0 0) := by
  unfold zfok at h
  split at h
  · rfl
  · rfl
  · rfl
  · show _ = va_rf (zad g 0); rw [zad_0 hR]; rfl
  · show _ = va_rf (zad g 0); rw [zad_0 hR]; rfl
  · cases h
theorem zmok_of {i : Nat} (h : zmok i = true) : Cond.initialized (zy i).cls ∈ zGw ∧ ((zy i).cls ≠ "java/lang/invoke/MethodHandle" ∧ (zy i).cls ≠ "java/lang/invoke/VarHandle") ∧ (∀ sig, parseMethodDescriptor (zy i).desc = some sig → (zm i).2.2.2.2 = sig.parameters.length) ∧ plainName (zy i).cls = true ∧ zPP.2.1 i ≤ 40 ∧ zrkc i = true := by
  simp only [zmok, Bool.and_eq_true, decide_eq_true_eq] at h
  obtain ⟨⟨⟨⟨⟨⟨⟨⟨⟨h1, h2⟩, h3⟩, h4⟩, h5⟩, h6⟩, h7⟩, h8⟩, h9⟩, h10⟩ := h
  refine ⟨zhas_good rfl h4, ⟨h6, h7⟩, fun sig hs => ?_, h5, h9, h10⟩
  rw [hs] at h8
  exact (Option.some.inj h8).symm
theorem zmok_st {i : Nat} (h : zmok i = true) (hk : (zm i).2.2.2.1 = 0) : Cond.static (zy i) ∈ zGw := by
  simp only [zmok, Bool.and_eq_true, hk] at h
  exact zhas_good rfl h.1.1.1.1.1.1.1.2
theorem zmok_vt {i : Nat} (h : zmok i = true) (hk : (zm i).2.2.2.1 = 1) : Cond.instanceMethod (zy i) ∈ zGw ∧ Cond.selects (zcl i) (zy i) (zy i) ∈ zGw := by
  simp only [zmok, Bool.and_eq_true, hk] at h
  exact ⟨zhas_good rfl h.1.1.1.1.1.1.1.2.1, zhas_good rfl h.1.1.1.1.1.1.1.2.2⟩
theorem zmok_in {i : Nat} (h : zmok i = true) (hk : (zm i).2.2.2.1 = 2) : Cond.instanceMethod (zy i) ∈ zGw ∧ (zy i).name = "<init>" ∧ (zm i).2.2.1 = none := by
  simp only [zmok, Bool.and_eq_true, hk, decide_eq_true_eq] at h
  exact ⟨zhas_good rfl h.1.1.1.1.1.1.1.2.1.1, h.1.1.1.1.1.1.1.2.1.2, h.1.1.1.1.1.1.1.2.2⟩
theorem znest_of {g : zG} {L : Nat} {xs : Nat → Int} {U : State} {H : Heap} {own : String} {idx i : Nat} (h : znest own idx i = true) (hR : zRO g L xs U H) : i = 19 ∧ va_Nw (.methodLinkNest own idx (zy 19) "TreesLendRings") U := by
  simp only [znest, Bool.and_eq_true, Bool.or_eq_true, decide_eq_true_eq] at h
  obtain ⟨-, -, -, -, -, -, -, ⟨n1, n2, n3⟩, -⟩ := hR
  obtain ⟨rfl, (⟨rfl, rfl⟩ | ⟨rfl, rfl⟩) | ⟨rfl, rfl⟩⟩ := h
  · exact ⟨rfl, n1⟩
  · exact ⟨rfl, n2⟩
  · exact ⟨rfl, n3⟩
/-- the receiver: an object of the method's class -/
theorem zrc_of {g : zG} {L : Nat} {xs : Nat → Int} {s : State} {H : Heap} {σ : zS} {i : Nat} {as : List zV} (hk : zrkc i = true) (hk0 : (zm i).2.2.2.1 ≠ 0) (h : zrcB (zPP.2.2 i) as σ = true) {locs : List Loc} (hS : va_S (zAr g) s.heap H locs) (hR : zRO g L xs s s.heap) (hH : zHP g σ H) (hO : zOK (zB L xs) σ) (hK : va_K g.1 vwCl (ztys g) s) : ∃ b as', as = zA b :: as' ∧ ∃ x, zv g (zA b) = .ref x ∧ ∃ cell : Cell, H[x]? = some cell ∧ cell.vm.isStatics = false ∧ s.vm.findClass (zcl i) = some cell.cls := by
  have hne : zPP.2.2 i ≠ 0 ∧ (match vwCl[zPP.2.2 i - 1]? with
    | some q => decide (q.1 = zcl i)
    | none => decide (zPP.2.2 i = 32) && decide (zcl i = "java/lang/String")) = true := by
    unfold zrkc at hk
    split at hk
    · next e => exact absurd e hk0
    · rw [Bool.and_eq_true, decide_eq_true_eq] at hk; exact hk
  obtain ⟨hne, hq⟩ := hne
  obtain ⟨k, hkk⟩ : ∃ k, zPP.2.2 i = k + 1 := ⟨zPP.2.2 i - 1, by omega⟩
  rw [hkk] at h hq
  match as, h with
  | .inr (.inr (.inl b)) :: as', h =>
    have hb : (σ.2.2.1 b).1 = k + 1 := of_decide_eq_true h
    refine ⟨b, as', rfl, ?_⟩
    simp only [Nat.add_sub_cancel] at hq
    split at hq
    · next q e =>
      have h10 : k < 10 := (List.getElem?_eq_some_iff.mp e).1
      obtain ⟨hat, -, e0⟩ := zobj hH hO hb h10
      obtain ⟨q', h1, cell, g1, g2, g3, -⟩ := hat
      refine ⟨_, e0, cell, g1, by rw [g3]; rfl, ?_⟩
      rw [g2, ← of_decide_eq_true hq]
      exact (hK.1 k q e).2.1
    · simp only [Bool.and_eq_true, decide_eq_true_eq] at hq
      have hb4 := zB_kind hO (a := b) (by omega)
      obtain ⟨-, -, -, -, ⟨adK, adV, k1, k2, k3, k4, k5, -⟩, -⟩ := hR
      rcases (show b = 4 ∨ b = 5 by omega) with rfl | rfl
      · have e0 : zv g (zA 4) = .ref (adK 0) := by show va_rf (zad g 4) = _; unfold zad; rw [if_pos (by decide), k1]; rfl
        refine ⟨_, e0, ?_⟩
        rw [hq.2]
        exact vk_recv (A := zAr g) k5 (by decide) hS
      · have e0 : zv g (zA 5) = .ref (adK 1) := by show va_rf (zad g 5) = _; unfold zad; rw [if_pos (by decide), k2]; rfl
        refine ⟨_, e0, ?_⟩
        rw [hq.2]
        exact vk_recv (A := zAr g) k5 (by decide) hS
/-- the relation at an instruction -/
def zRel (g : zG) (L : Nat) (xs : Nat → Int) (j : Nat) (s : State) (ls st : List zV) (σ : zS) (H : Heap) (locs : List Loc) (lsA : Array Slot) : Prop := zHP g σ H ∧ zIv L xs σ ∧ va_S (zAr g) s.heap H locs ∧ lv_has lsA (zPP.2.1 j) (zlv g 0 ls) ∧ zcs ls ∧ zcs st
def zCx (g : zG) (L : Nat) (xs : Nat → Int) (j : Nat) (p : Program) (s : State) (m : MethodId) (args : Array Value) (meth : Method) (c : Code) : Prop :=
  p.tables.exec = Jvm.exec ∧ c.code = (zm j).2.1 ∧ c.maxLocals = zPP.2.1 j ∧ s.vm.findClass (zcl j) = some m.cls ∧ (∀ w ∈ zGw, w.before args s = true) ∧ ((zy j).name = "<init>" → meth.name = "<init>") ∧ va_K g.1 vwCl (ztys g) s ∧ zRO g L xs s s.heap
set_option maxHeartbeats 4000000 in
theorem zone {l : Launch} {g : zG} {L : Nat} {xs : Nat → Int} {d j : Nat} {v : zV} {σ' : zS} {p : Program} {e : Env} {s : State} {m : MethodId} {args : Array Value} {below : List Frame} {meth : Method} {c : Code} {R : Room} {Z : State → Prop} {c0 s0 : Nat}
    (hcx : zCx g L xs j p s m args meth c) (hRf : d + 1 ≤ R.frames) (hRl : 100 * (d + 1) ≤ R.locals) (hRc : σ'.1 - c0 ≤ R.cells) (hRs : σ'.2.1 - s0 ≤ R.slots) (hmo : ∀ {k : Nat}, 0 < k → k < 329 → zmok k = true)
    {k : Nat → List zV → List zV → zS → zO} {cal : Nat → List zV → zS → zO} {σ : zS}
    (hkg : ∀ pc ls st σ1, k pc ls st σ1 = some (v, σ') → σ1.1 ≤ σ'.1 ∧ σ1.2.1 ≤ σ'.2.1)
    (HK : ∀ pc ls st σ1 H locs lsA, k pc ls st σ1 = some (v, σ') → zRel g L xs j s ls st σ1 H locs lsA → c0 ≤ σ1.1 → s0 ≤ σ1.2.1 → W p l e R s m args below meth c H locs (σ1.1 - c0) (σ1.2.1 - s0) Z (F0 m (zpc j pc) lsA (st.map (zv g))))
    (HC : ∀ i as va σ1, cal i as σ = some (va, σ1) → 0 < i → i < 329 → zcs as → (∃ d', d = d' + 1 ∧ Met l (zy i) (zws i) (zrm d' (σ1.1 - σ.1) (σ1.2.1 - σ.2.1)) (va_Pc (as.map (zv g)) (zPre g L xs σ)) (zQ g va σ1) (σ1.1 - σ.1) (σ1.2.1 - σ.2.1) (zAr g)) ∧ zIv L xs σ1 ∧ zcan va ∧ zrcB (zPP.2.2 i) as σ = true ∧ σ.1 ≤ σ1.1 ∧ σ.2.1 ≤ σ1.2.1)
    (HE : ∀ pc H locs lsA, zHP g σ' H → va_S (zAr g) s.heap H locs → zEnd j pc v → W p l e R s m args below meth c H locs (σ'.1 - c0) (σ'.2.1 - s0) Z (F0 m pc lsA (zrs g v)))
    {pc : Nat} {ins : Instr} {ls st : List zV} {H : Heap} {locs : List Loc} {lsA : Array Slot} (hck : zck j pc ins = true) (h : zstp cal k ins pc ls st σ = some (v, σ')) (hr : zRel g L xs j s ls st σ H locs lsA) (h0 : c0 ≤ σ.1) (hs0 : s0 ≤ σ.2.1) :
    W p l e R s m args below meth c H locs (σ.1 - c0) (σ.2.1 - s0) Z (F0 m (zpc j pc) lsA (st.map (zv g))) := by
  obtain ⟨hx, hb, hml, hown, hts, hini, hK, hRO⟩ := hcx
  obtain ⟨hH, hI, hS, hl, hcl, hcs⟩ := hr
  cases ins
  case iload n =>
    simp only [zstp] at h
    simp only [zck, Bool.or_eq_true, Bool.and_eq_true, decide_eq_true_eq] at hck
    split at h
    · next x e =>
      have hx1 := zld hl e (by simp)
      have K1 := HK (pc + 1) (ls) (zI x :: st) σ H locs lsA h ⟨hH, hI, hS, hl, hcl, ⟨zcs_nth hcl e (by simp), hcs⟩⟩ h0 hs0
      rcases hck with hd | ⟨h4, hd⟩
      · obtain ⟨hdg, hnx⟩ := zdc_of hd
        rw [hnx] at K1
        exact lv_iload hx hb hdg hx1 K1
      · obtain ⟨hdg, hnx⟩ := zdc_of hd
        rw [hnx] at K1
        exact lv_iload_n hx hb hdg (zfin4 h4) hx1 K1
    · cases h
  case lload n =>
    simp only [zstp] at h
    simp only [zck, Bool.or_eq_true, Bool.and_eq_true, decide_eq_true_eq] at hck
    split at h
    · next x e =>
      have hx1 := zld hl e (by simp)
      have K1 := HK (pc + 1) (ls) (zL x :: st) σ H locs lsA h ⟨hH, hI, hS, hl, hcl, ⟨zcs_nth hcl e (by simp), hcs⟩⟩ h0 hs0
      rcases hck with hd | ⟨h4, hd⟩
      · obtain ⟨hdg, hnx⟩ := zdc_of hd
        rw [hnx] at K1
        exact lv_lload hx hb hdg hx1 K1
      · obtain ⟨hdg, hnx⟩ := zdc_of hd
        rw [hnx] at K1
        exact lv_lload_n hx hb hdg (zfin4 h4) hx1 K1
    · cases h
  case aload n =>
    simp only [zstp] at h
    simp only [zck, Bool.or_eq_true, Bool.and_eq_true, decide_eq_true_eq] at hck
    split at h
    · next x e =>
      have hx1 := zld hl e (by simp)
      have K1 := HK (pc + 1) (ls) (zA x :: st) σ H locs lsA h ⟨hH, hI, hS, hl, hcl, ⟨zcs_nth hcl e (by simp), hcs⟩⟩ h0 hs0
      rcases hck with hd | ⟨h4, hd⟩
      · obtain ⟨hdg, hnx⟩ := zdc_of hd
        rw [hnx] at K1
        exact zaload hx hb hdg hx1 K1
      · obtain ⟨hdg, hnx⟩ := zdc_of hd
        rw [hnx] at K1
        exact zaload_n hx hb hdg (zfin4 h4) hx1 K1
    · cases h
  case istore n =>
    simp only [zstp] at h
    simp only [zck, Bool.or_eq_true, Bool.and_eq_true, decide_eq_true_eq] at hck
    split at h
    · next x st' =>
      obtain ⟨hn, hck⟩ := hck
      have K1 := fun lsA' (hl' : lv_has lsA' (zPP.2.1 j) (zlv g 0 (zst1 ls n (zI x)))) => HK (pc + 1) (zst1 ls n (zI x)) st' σ H locs lsA' h ⟨hH, hI, hS, hl', zst1_cs hcl hcs.1, hcs.2⟩ h0 hs0
      rcases hck with hd | ⟨h4, hd⟩
      · obtain ⟨hdg, hnx⟩ := zdc_of hd
        rw [hnx] at K1
        exact lv_istore hx hb hdg hl hn rfl (fun ls' hl' => K1 ls' (zhas_mono hl' (zst1_sub (v := zI x))))
      · obtain ⟨hdg, hnx⟩ := zdc_of hd
        rw [hnx] at K1
        exact lv_istore_n hx hb hdg (zfin4 h4) hl hn rfl (fun ls' hl' => K1 ls' (zhas_mono hl' (zst1_sub (v := zI x))))
    · cases h
  case lstore n =>
    simp only [zstp] at h
    simp only [zck, Bool.or_eq_true, Bool.and_eq_true, decide_eq_true_eq] at hck
    split at h
    · next x st' =>
      obtain ⟨hn, hck⟩ := hck
      have K1 := fun lsA' (hl' : lv_has lsA' (zPP.2.1 j) (zlv g 0 (zst2 ls n (zL x)))) => HK (pc + 1) (zst2 ls n (zL x)) st' σ H locs lsA' h ⟨hH, hI, hS, hl', zst2_cs hcl hcs.1, hcs.2⟩ h0 hs0
      rcases hck with hd | ⟨h4, hd⟩
      · obtain ⟨hdg, hnx⟩ := zdc_of hd
        rw [hnx] at K1
        exact lv_lstore hx hb hdg hl hn rfl (fun ls' hl' => K1 ls' (zhas_mono hl' (zst2_sub (v := zL x))))
      · obtain ⟨hdg, hnx⟩ := zdc_of hd
        rw [hnx] at K1
        exact lv_lstore_n hx hb hdg (zfin4 h4) hl hn rfl (fun ls' hl' => K1 ls' (zhas_mono hl' (zst2_sub (v := zL x))))
    · cases h
  case astore n =>
    simp only [zstp] at h
    simp only [zck, Bool.or_eq_true, Bool.and_eq_true, decide_eq_true_eq] at hck
    split at h
    · next x st' =>
      obtain ⟨hn, hck⟩ := hck
      have K1 := fun lsA' (hl' : lv_has lsA' (zPP.2.1 j) (zlv g 0 (zst1 ls n (zA x)))) => HK (pc + 1) (zst1 ls n (zA x)) st' σ H locs lsA' h ⟨hH, hI, hS, hl', zst1_cs hcl hcs.1, hcs.2⟩ h0 hs0
      rcases hck with hd | ⟨h4, hd⟩
      · obtain ⟨hdg, hnx⟩ := zdc_of hd
        rw [hnx] at K1
        exact zastore hx hb hdg hl hn (fun ls' hl' => K1 ls' (zhas_mono hl' (zst1_sub (v := zA x))))
      · obtain ⟨hdg, hnx⟩ := zdc_of hd
        rw [hnx] at K1
        exact zastore_n hx hb hdg (zfin4 h4) hl hn (fun ls' hl' => K1 ls' (zhas_mono hl' (zst1_sub (v := zA x))))
    · cases h
  case bipush v =>
    simp only [zstp] at h
    have K1 := HK (pc + 1) (ls) (zI v :: st) σ H locs lsA h ⟨hH, hI, hS, hl, hcl, ⟨zck_bi hck, hcs⟩⟩ h0 hs0
    simp only [zck, Bool.or_eq_true, Bool.and_eq_true, decide_eq_true_eq] at hck
    obtain ⟨hv, hck⟩ := hck
    rcases hck with ((hd | ⟨hd, hv2⟩) | ⟨hd, hv2⟩) | hd
    · obtain ⟨hdg, hnx⟩ := zdc_of hd
      rw [hnx] at K1
      exact lv_iconst hx hb hdg rfl K1
    · obtain ⟨hdg, hnx⟩ := zdc_of hd
      rw [hnx] at K1
      exact lv_bipush hx hb hdg hv2 K1
    · obtain ⟨hdg, hnx⟩ := zdc_of hd
      rw [hnx] at K1
      exact lv_sipush hx hb hdg hv2 K1
    · split at hd
      · next idx hdg =>
        rw [Bool.and_eq_true] at hd
        rw [znx_of hd.1] at K1
        exact lv_ldc hx hb hown (hts _ (zwd_in hd.2)) hdg K1
      · next idx hdg =>
        rw [Bool.and_eq_true] at hd
        rw [znx_of hd.1] at K1
        exact lv_ldcw hx hb hown (hts _ (zwd_in hd.2)) hdg K1
      · cases hd
  case iconst v =>
    simp only [zstp] at h
    have K1 := HK (pc + 1) (ls) (zI v :: st) σ H locs lsA h ⟨hH, hI, hS, hl, hcl, ⟨zck_ic hck, hcs⟩⟩ h0 hs0
    simp only [zck] at hck
    split at hck
    · next idx hdg =>
      simp only [Bool.and_eq_true, decide_eq_true_eq] at hck
      obtain ⟨⟨hnx, rfl⟩, hw⟩ := hck
      rw [znx_of hnx] at K1
      exact va_gets (A := zAr g) hx hb hRO.2.2.2.2.2.1 hS hown (hts _ (zwd_in hw)) (fun _ h => h) hdg K1
    · cases hck
  case sipush v =>
    simp only [zstp] at h
    have K1 := HK (pc + 1) (ls) (zL v :: st) σ H locs lsA h ⟨hH, hI, hS, hl, hcl, ⟨zck_si hck, hcs⟩⟩ h0 hs0
    simp only [zck, Bool.or_eq_true, Bool.and_eq_true, decide_eq_true_eq] at hck
    obtain ⟨hv, hck⟩ := hck
    rcases hck with ⟨h01, hd⟩ | hd
    · obtain ⟨hdg, hnx⟩ := zdc_of hd
      rw [hnx] at K1
      exact lv_lconst hx hb hdg (zfin2 h01) K1
    · split at hd
      · next idx hdg =>
        rw [Bool.and_eq_true] at hd
        rw [znx_of hd.1] at K1
        exact lv_ldc2 hx hb hown (hts _ (zwd_in hd.2)) hdg K1
      · cases hd
  case aconst_null =>
    simp only [zstp] at h
    have K1 := HK (pc + 1) (ls) (zA 0 :: st) σ H locs lsA h ⟨hH, hI, hS, hl, hcl, ⟨trivial, hcs⟩⟩ h0 hs0
    obtain ⟨hdg, hnx⟩ := zdc_of (show zdc j pc .aconst_null 1 = true from hck)
    rw [hnx] at K1
    refine lv_null hx hb hdg ?_
    have e0 : zv g (zA 0) = .null := by show va_rf (zad g 0) = _; rw [zad_0 hRO]; rfl
    simp only [List.map_cons, e0] at K1
    exact K1
  case ldc q =>
    simp only [zstp] at h
    have K1 := HK (pc + 1) (ls) (zA q :: st) σ H locs lsA h ⟨hH, hI, hS, hl, hcl, ⟨trivial, hcs⟩⟩ h0 hs0
    obtain ⟨-, -, -, -, ⟨adK, adV, k1, k2, k3, k4, k5, k6, k7⟩, -⟩ := id hRO
    simp only [zck] at hck
    split at hck
    · next idx hdg =>
      simp only [Bool.and_eq_true, Bool.or_eq_true, decide_eq_true_eq] at hck
      obtain ⟨⟨hnx, hcl0⟩, ⟨rfl, rfl⟩ | ⟨rfl, rfl⟩⟩ := hck
      · rw [znx_of hnx] at K1
        have e0 : zv g (zA 4) = .ref (adK 0) := by show va_rf (zad g 4) = _; unfold zad; rw [if_pos (by decide), k1]; rfl
        simp only [List.map_cons, e0] at K1
        rw [hcl0] at hown
        exact va_ldcS hx hb hown k6 hdg K1
      · rw [znx_of hnx] at K1
        have e0 : zv g (zA 5) = .ref (adK 1) := by show va_rf (zad g 5) = _; unfold zad; rw [if_pos (by decide), k2]; rfl
        simp only [List.map_cons, e0] at K1
        rw [hcl0] at hown
        exact va_ldcS hx hb hown k7 hdg K1
    · cases hck
  case getstatic q =>
    simp only [zstp] at h
    have K1 := HK (pc + 1) (ls) (zA q :: st) σ H locs lsA h ⟨hH, hI, hS, hl, hcl, ⟨trivial, hcs⟩⟩ h0 hs0
    obtain ⟨-, -, ⟨t2, a1, a2, a3⟩, ⟨t3, b1, b2, b3⟩, -, -, f8, -⟩ := id hRO
    simp only [zck] at hck
    split at hck
    · next idx hdg =>
      simp only [Bool.and_eq_true, Bool.or_eq_true, decide_eq_true_eq] at hck
      obtain ⟨hnx, (⟨rfl, hw⟩ | ⟨rfl, hw⟩) | ⟨rfl, hw⟩⟩ := hck
      · rw [znx_of hnx] at K1
        have e0 : zv g (zA 2) = .ref t2 := by show va_rf (zad g 2) = _; unfold zad; rw [if_pos (by decide), a1]; rfl
        simp only [List.map_cons, e0] at K1
        exact va_gets (A := zAr g) hx hb a3 hS hown (hts _ (zwd_in hw)) (fun _ h => h) hdg K1
      · rw [znx_of hnx] at K1
        have e0 : zv g (zA 3) = .ref t3 := by show va_rf (zad g 3) = _; unfold zad; rw [if_pos (by decide), b1]; rfl
        simp only [List.map_cons, e0] at K1
        exact va_gets (A := zAr g) hx hb b3 hS hown (hts _ (zwd_in hw)) (fun _ h => h) hdg K1
      · rw [znx_of hnx] at K1
        have e0 : zv g (zA 8) = va_rf (g.2.2.2 8) := by show va_rf (zad g 8) = _; unfold zad; rw [if_pos (by decide)]
        simp only [List.map_cons, e0] at K1
        exact va_gets (A := zAr g) hx hb f8 hS hown (hts _ (zwd_in hw)) (fun _ h => h) hdg K1
    · cases hck
  case iinc n c =>
    simp only [zstp] at h
    simp only [zck, Bool.or_eq_true, Bool.and_eq_true, decide_eq_true_eq] at hck
    split at h
    · next x e =>
      obtain ⟨hn, hd⟩ := hck
      obtain ⟨hdg, hnx⟩ := zdc_of hd
      have K1 := fun lsA' (hl' : lv_has lsA' (zPP.2.1 j) (zlv g 0 (zst1 ls n (zI (zw32 (x + c)))))) => HK (pc + 1) (zst1 ls n (zI (zw32 (x + c)))) st σ H locs lsA' h ⟨hH, hI, hS, hl', zst1_cs hcl (zw32_in _), hcs⟩ h0 hs0
      rw [hnx] at K1
      obtain ⟨k0, hk0⟩ := List.getElem?_of_mem (zlv_of (g := g) ls 0 n (zI x) (znth_get e (by simp)) (by simp))
      rw [Nat.zero_add] at hk0
      exact lv_iinc (v := Int32.ofInt (zw32 (x + c))) hx hb hdg hl (k := k0) hk0 (z_add x c) hn rfl (fun ls' hl' => K1 ls' (zhas_mono hl' (zst1_sub (v := zI (zw32 (x + c))))))
    · cases h
  case iadd =>
    simp only [zstp] at h
    obtain ⟨hdg, hnx⟩ := zdc_of (show zdc j pc .iadd 1 = true from hck)
    split at h
    · next y x st' =>
      have K1 := HK (pc + 1) (ls) (zI (zw32 (x + y)) :: st') σ H locs lsA h ⟨hH, hI, hS, hl, hcl, ⟨zw32_in _, hcs.2.2⟩⟩ h0 hs0
      rw [hnx] at K1
      refine lv_iadd hx hb hdg ?_
      rw [z_add x y]
      exact K1
    · cases h
  case isub =>
    simp only [zstp] at h
    obtain ⟨hdg, hnx⟩ := zdc_of (show zdc j pc .isub 1 = true from hck)
    split at h
    · next y x st' =>
      have K1 := HK (pc + 1) (ls) (zI (zw32 (x - y)) :: st') σ H locs lsA h ⟨hH, hI, hS, hl, hcl, ⟨zw32_in _, hcs.2.2⟩⟩ h0 hs0
      rw [hnx] at K1
      refine lv_isub hx hb hdg ?_
      rw [z_sub x y]
      exact K1
    · cases h
  case imul =>
    simp only [zstp] at h
    obtain ⟨hdg, hnx⟩ := zdc_of (show zdc j pc .imul 1 = true from hck)
    split at h
    · next y x st' =>
      have K1 := HK (pc + 1) (ls) (zI (zw32 (x * y)) :: st') σ H locs lsA h ⟨hH, hI, hS, hl, hcl, ⟨zw32_in _, hcs.2.2⟩⟩ h0 hs0
      rw [hnx] at K1
      refine lv_imul hx hb hdg ?_
      rw [z_mul x y]
      exact K1
    · cases h
  case iand =>
    simp only [zstp] at h
    obtain ⟨hdg, hnx⟩ := zdc_of (show zdc j pc .iand 1 = true from hck)
    split at h
    · next y x st' =>
      have K1 := HK (pc + 1) (ls) (zI (zand x y) :: st') σ H locs lsA h ⟨hH, hI, hS, hl, hcl, ⟨z32_toInt _, hcs.2.2⟩⟩ h0 hs0
      rw [hnx] at K1
      refine lv_iand hx hb hdg ?_
      rw [z_and x y]
      exact K1
    · cases h
  case ior =>
    simp only [zstp] at h
    obtain ⟨hdg, hnx⟩ := zdc_of (show zdc j pc .ior 1 = true from hck)
    split at h
    · next y x st' =>
      have K1 := HK (pc + 1) (ls) (zI (zor x y) :: st') σ H locs lsA h ⟨hH, hI, hS, hl, hcl, ⟨z32_toInt _, hcs.2.2⟩⟩ h0 hs0
      rw [hnx] at K1
      refine lv_ior hx hb hdg ?_
      rw [z_or x y]
      exact K1
    · cases h
  case ixor =>
    simp only [zstp] at h
    obtain ⟨hdg, hnx⟩ := zdc_of (show zdc j pc .ixor 1 = true from hck)
    split at h
    · next y x st' =>
      have K1 := HK (pc + 1) (ls) (zI (zxor x y) :: st') σ H locs lsA h ⟨hH, hI, hS, hl, hcl, ⟨z32_toInt _, hcs.2.2⟩⟩ h0 hs0
      rw [hnx] at K1
      refine lv_ixor hx hb hdg ?_
      rw [z_xor x y]
      exact K1
    · cases h
  case ishl =>
    simp only [zstp] at h
    obtain ⟨hdg, hnx⟩ := zdc_of (show zdc j pc .ishl 1 = true from hck)
    split at h
    · next y x st' =>
      have K1 := HK (pc + 1) (ls) (zI (zshl x y) :: st') σ H locs lsA h ⟨hH, hI, hS, hl, hcl, ⟨z32_toInt _, hcs.2.2⟩⟩ h0 hs0
      rw [hnx] at K1
      refine lv_ishl hx hb hdg ?_
      rw [z_shl x y]
      exact K1
    · cases h
  case ishr =>
    simp only [zstp] at h
    obtain ⟨hdg, hnx⟩ := zdc_of (show zdc j pc .ishr 1 = true from hck)
    split at h
    · next y x st' =>
      have K1 := HK (pc + 1) (ls) (zI (zshr x y) :: st') σ H locs lsA h ⟨hH, hI, hS, hl, hcl, ⟨z32_toInt _, hcs.2.2⟩⟩ h0 hs0
      rw [hnx] at K1
      refine lv_ishr hx hb hdg ?_
      rw [z_shr x y]
      exact K1
    · cases h
  case iushr =>
    simp only [zstp] at h
    obtain ⟨hdg, hnx⟩ := zdc_of (show zdc j pc .iushr 1 = true from hck)
    split at h
    · next y x st' =>
      have K1 := HK (pc + 1) (ls) (zI (zushr x y) :: st') σ H locs lsA h ⟨hH, hI, hS, hl, hcl, ⟨z32_toInt _, hcs.2.2⟩⟩ h0 hs0
      rw [hnx] at K1
      exact lv_iushr hx hb hdg (z_ushr x y) K1
    · cases h
  case ladd =>
    simp only [zstp] at h
    obtain ⟨hdg, hnx⟩ := zdc_of (show zdc j pc .ladd 1 = true from hck)
    split at h
    · next y x st' =>
      have K1 := HK (pc + 1) (ls) (zL (zw64 (x + y)) :: st') σ H locs lsA h ⟨hH, hI, hS, hl, hcl, ⟨zw64_in _, hcs.2.2⟩⟩ h0 hs0
      rw [hnx] at K1
      refine lv_ladd hx hb hdg ?_
      rw [zl_add x y]
      exact K1
    · cases h
  case lsub =>
    simp only [zstp] at h
    obtain ⟨hdg, hnx⟩ := zdc_of (show zdc j pc .lsub 1 = true from hck)
    split at h
    · next y x st' =>
      have K1 := HK (pc + 1) (ls) (zL (zw64 (x - y)) :: st') σ H locs lsA h ⟨hH, hI, hS, hl, hcl, ⟨zw64_in _, hcs.2.2⟩⟩ h0 hs0
      rw [hnx] at K1
      refine lv_lsub hx hb hdg ?_
      rw [zl_sub x y]
      exact K1
    · cases h
  case lmul =>
    simp only [zstp] at h
    obtain ⟨hdg, hnx⟩ := zdc_of (show zdc j pc .lmul 1 = true from hck)
    split at h
    · next y x st' =>
      have K1 := HK (pc + 1) (ls) (zL (zw64 (x * y)) :: st') σ H locs lsA h ⟨hH, hI, hS, hl, hcl, ⟨zw64_in _, hcs.2.2⟩⟩ h0 hs0
      rw [hnx] at K1
      refine lv_lmul hx hb hdg ?_
      rw [zl_mul x y]
      exact K1
    · cases h
  case lor =>
    simp only [zstp] at h
    obtain ⟨hdg, hnx⟩ := zdc_of (show zdc j pc .lor 1 = true from hck)
    split at h
    · next y x st' =>
      have K1 := HK (pc + 1) (ls) (zL (zlor x y) :: st') σ H locs lsA h ⟨hH, hI, hS, hl, hcl, ⟨z64_toInt _, hcs.2.2⟩⟩ h0 hs0
      rw [hnx] at K1
      refine lv_lor hx hb hdg ?_
      rw [zl_or x y]
      exact K1
    · cases h
  case lshl =>
    simp only [zstp] at h
    obtain ⟨hdg, hnx⟩ := zdc_of (show zdc j pc .lshl 1 = true from hck)
    split at h
    · next y x st' =>
      have K1 := HK (pc + 1) (ls) (zL (zlshl x y) :: st') σ H locs lsA h ⟨hH, hI, hS, hl, hcl, ⟨z64_toInt _, hcs.2.2⟩⟩ h0 hs0
      rw [hnx] at K1
      exact lv_lshl hx hb hdg (zl_shl x y) K1
    · cases h
  case lshr =>
    simp only [zstp] at h
    obtain ⟨hdg, hnx⟩ := zdc_of (show zdc j pc .lshr 1 = true from hck)
    split at h
    · next y x st' =>
      have K1 := HK (pc + 1) (ls) (zL (zlshr x y) :: st') σ H locs lsA h ⟨hH, hI, hS, hl, hcl, ⟨z64_toInt _, hcs.2.2⟩⟩ h0 hs0
      rw [hnx] at K1
      exact lv_lshr hx hb hdg (zl_shr x y) K1
    · cases h
  case idiv =>
    simp only [zstp] at h
    obtain ⟨hdg, hnx⟩ := zdc_of (show zdc j pc .idiv 1 = true from hck)
    split at h
    · next y x st' =>
      split at h
      · cases h
      · next hy =>
        have K1 := HK (pc + 1) (ls) (zI (zw32 (x.tdiv y)) :: st') σ H locs lsA h ⟨hH, hI, hS, hl, hcl, ⟨zw32_in _, hcs.2.2⟩⟩ h0 hs0
        rw [hnx] at K1
        refine lv_idiv hx hb hdg (fun h1 => hy ((z_eq0 hcs.1).mp h1)) ?_
        rw [z_div hcs.2.1 hcs.1]
        exact K1
    · cases h
  case irem =>
    simp only [zstp] at h
    obtain ⟨hdg, hnx⟩ := zdc_of (show zdc j pc .irem 1 = true from hck)
    split at h
    · next y x st' =>
      split at h
      · cases h
      · next hy =>
        have K1 := HK (pc + 1) (ls) (zI (x.tmod y) :: st') σ H locs lsA h ⟨hH, hI, hS, hl, hcl, ⟨z32_tmod hcs.2.1, hcs.2.2⟩⟩ h0 hs0
        rw [hnx] at K1
        refine lv_irem hx hb hdg (fun h1 => hy ((z_eq0 hcs.1).mp h1)) ?_
        rw [z_rem hcs.2.1 hcs.1]
        exact K1
    · cases h
  case ldiv =>
    simp only [zstp] at h
    obtain ⟨hdg, hnx⟩ := zdc_of (show zdc j pc .ldiv 1 = true from hck)
    split at h
    · next y x st' =>
      split at h
      · cases h
      · next hy =>
        have K1 := HK (pc + 1) (ls) (zL (zw64 (x.tdiv y)) :: st') σ H locs lsA h ⟨hH, hI, hS, hl, hcl, ⟨zw64_in _, hcs.2.2⟩⟩ h0 hs0
        rw [hnx] at K1
        refine lv_ldiv hx hb hdg (fun h1 => hy ((zl_eq0 hcs.1).mp h1)) ?_
        rw [zl_div hcs.2.1 hcs.1]
        exact K1
    · cases h
  case lrem =>
    simp only [zstp] at h
    obtain ⟨hdg, hnx⟩ := zdc_of (show zdc j pc .lrem 1 = true from hck)
    split at h
    · next y x st' =>
      split at h
      · cases h
      · next hy =>
        have K1 := HK (pc + 1) (ls) (zL (x.tmod y) :: st') σ H locs lsA h ⟨hH, hI, hS, hl, hcl, ⟨z64_tmod hcs.2.1, hcs.2.2⟩⟩ h0 hs0
        rw [hnx] at K1
        refine lv_lrem hx hb hdg (fun h1 => hy ((zl_eq0 hcs.1).mp h1)) ?_
        rw [zl_rem hcs.2.1 hcs.1]
        exact K1
    · cases h
  case fadd =>
    simp only [zstp] at h
    split at h
    · next y x st' =>
      split at h
      · next c8 =>
        have K1 := HK (pc + 1) (ls) (zI (max x y) :: st') σ H locs lsA h ⟨hH, hI, hS, hl, hcl, ⟨z32_max hcs.2.1 hcs.1, hcs.2.2⟩⟩ h0 hs0
        simp only [zck] at hck
        split at hck
        · next idx hdg =>
          rw [Bool.and_eq_true] at hck
          rw [znx_of hck.1] at K1
          refine va_mmax hx hb (hml.trans hl.1.symm) hown (hts _ (zwd_in hck.2)) (hts _ zm_maxS) (hts _ zm_ini) (hts _ zm_maxC) (by omega) (by rw [zcw_sum]; have := Nat.le_of_ble_eq_true c8; omega) (by have := (hkg _ _ _ _ h).1; omega) (by have := (hkg _ _ _ _ h).2; omega) hdg ?_
          rw [z_maxA hcs.2.1 hcs.1]
          exact K1
        · cases hck
      · cases h
    · cases h
  case fsub =>
    simp only [zstp] at h
    split at h
    · next y x st' =>
      split at h
      · next c8 =>
        have K1 := HK (pc + 1) (ls) (zI (min x y) :: st') σ H locs lsA h ⟨hH, hI, hS, hl, hcl, ⟨z32_min hcs.2.1 hcs.1, hcs.2.2⟩⟩ h0 hs0
        simp only [zck] at hck
        split at hck
        · next idx hdg =>
          rw [Bool.and_eq_true] at hck
          rw [znx_of hck.1] at K1
          refine va_mmin hx hb (hml.trans hl.1.symm) hown (hts _ (zwd_in hck.2)) (hts _ zm_minS) (hts _ zm_ini) (hts _ zm_minC) (by omega) (by rw [zcw_sum]; have := Nat.le_of_ble_eq_true c8; omega) (by have := (hkg _ _ _ _ h).1; omega) (by have := (hkg _ _ _ _ h).2; omega) hdg ?_
          rw [z_minA hcs.2.1 hcs.1]
          exact K1
        · cases hck
      · cases h
    · cases h
  case ineg =>
    simp only [zstp] at h
    obtain ⟨hdg, hnx⟩ := zdc_of (show zdc j pc .ineg 1 = true from hck)
    split at h
    · next x st' =>
      have K1 := HK (pc + 1) (ls) (zI (zw32 (-x)) :: st') σ H locs lsA h ⟨hH, hI, hS, hl, hcl, ⟨zw32_in _, hcs.2⟩⟩ h0 hs0
      rw [hnx] at K1
      refine lv_ineg hx hb hdg ?_
      rw [z_neg x]
      exact K1
    · cases h
  case lneg =>
    simp only [zstp] at h
    obtain ⟨hdg, hnx⟩ := zdc_of (show zdc j pc .lneg 1 = true from hck)
    split at h
    · next x st' =>
      have K1 := HK (pc + 1) (ls) (zL (zw64 (-x)) :: st') σ H locs lsA h ⟨hH, hI, hS, hl, hcl, ⟨zw64_in _, hcs.2⟩⟩ h0 hs0
      rw [hnx] at K1
      refine lv_lneg hx hb hdg ?_
      rw [zl_neg x]
      exact K1
    · cases h
  case i2l =>
    simp only [zstp] at h
    obtain ⟨hdg, hnx⟩ := zdc_of (show zdc j pc .i2l 1 = true from hck)
    split at h
    · next x st' =>
      have K1 := HK (pc + 1) (ls) (zL (x) :: st') σ H locs lsA h ⟨hH, hI, hS, hl, hcl, ⟨z_il hcs.1, hcs.2⟩⟩ h0 hs0
      rw [hnx] at K1
      exact lv_i2l hx hb hdg (z_i2l hcs.1) K1
    · cases h
  case l2i =>
    simp only [zstp] at h
    obtain ⟨hdg, hnx⟩ := zdc_of (show zdc j pc .l2i 1 = true from hck)
    split at h
    · next x st' =>
      have K1 := HK (pc + 1) (ls) (zI (zw32 x) :: st') σ H locs lsA h ⟨hH, hI, hS, hl, hcl, ⟨zw32_in _, hcs.2⟩⟩ h0 hs0
      rw [hnx] at K1
      exact lv_l2i hx hb hdg (z_l2i x) K1
    · cases h
  case i2c =>
    simp only [zstp] at h
    obtain ⟨hdg, hnx⟩ := zdc_of (show zdc j pc .i2c 1 = true from hck)
    split at h
    · next x st' =>
      have K1 := HK (pc + 1) (ls) (zI (x % 65536) :: st') σ H locs lsA h ⟨hH, hI, hS, hl, hcl, ⟨z_c16 x, hcs.2⟩⟩ h0 hs0
      rw [hnx] at K1
      exact lv_i2c hx hb hdg (z_i2c) K1
    · cases h
  case i2b =>
    simp only [zstp] at h
    obtain ⟨hdg, hnx⟩ := zdc_of (show zdc j pc .i2b 1 = true from hck)
    split at h
    · next x st' =>
      have K1 := HK (pc + 1) (ls) (zI ((x + 128) % 256 - 128) :: st') σ H locs lsA h ⟨hH, hI, hS, hl, hcl, ⟨z_b8 x, hcs.2⟩⟩ h0 hs0
      rw [hnx] at K1
      exact lv_i2b hx hb hdg (z_i2b) K1
    · cases h
  case lcmp =>
    simp only [zstp] at h
    obtain ⟨hdg, hnx⟩ := zdc_of (show zdc j pc .lcmp 1 = true from hck)
    split at h
    · next y x st' =>
      have K1 := HK (pc + 1) (ls) (zI (zcmp x y) :: st') σ H locs lsA h ⟨hH, hI, hS, hl, hcl, ⟨zcmp_in x y, hcs.2.2⟩⟩ h0 hs0
      rw [hnx] at K1
      refine W.lcmp hx hb hdg ?_
      rw [zl_cmp hcs.2.1 hcs.1]
      exact K1
    · cases h
  case goto t =>
    simp only [zstp] at h
    have K1 := HK (t.toNat) (ls) (st) σ H locs lsA h ⟨hH, hI, hS, hl, hcl, hcs⟩ h0 hs0
    simp only [zck] at hck
    split at hck
    · next off hdg => exact lv_goto hx hb hdg (ztg_of hck) K1
    · cases hck
  case ifCond c t =>
    simp only [zstp] at h
    simp only [zck] at hck
    split at hck
    · next c' off hdg =>
      simp only [Bool.and_eq_true, decide_eq_true_eq] at hck
      obtain ⟨⟨rfl, htg⟩, hnx⟩ := hck
      have htg := ztg_of htg
      have hnx := znx_of hnx
      split at h
      · next x st' =>
        have Kt := fun h => HK t.toNat ls st' σ H locs lsA h ⟨hH, hI, hS, hl, hcl, hcs.2⟩ h0 hs0
        have Kf := fun h => HK (pc + 1) ls st' σ H locs lsA h ⟨hH, hI, hS, hl, hcl, hcs.2⟩ h0 hs0
        rw [hnx] at Kf
        cases c'
        case eq =>
          simp only at h
          split at h
          · next q => exact lv_if_eq hx hb hdg htg (fun _ => Kt h) (fun w => absurd ((z_eq0 hcs.1).mpr q) w)
          · next q => exact lv_if_eq hx hb hdg htg (fun w => absurd ((z_eq0 hcs.1).mp w) q) (fun _ => Kf h)
        case ne =>
          simp only at h
          split at h
          · next q => exact lv_if_ne hx hb hdg htg (fun w => absurd q ((z_ne0 hcs.1).mp w)) (fun _ => Kf h)
          · next q => exact lv_if_ne hx hb hdg htg (fun _ => Kt h) (fun w => absurd w ((z_ne0 hcs.1).mpr q))
        case lt =>
          simp only at h
          split at h
          · next q => exact lv_if_lt hx hb hdg htg (fun _ => Kt h) (fun w => absurd ((z_lt0 hcs.1).mpr q) w)
          · next q => exact lv_if_lt hx hb hdg htg (fun w => absurd ((z_lt0 hcs.1).mp w) q) (fun _ => Kf h)
        case ge =>
          simp only at h
          split at h
          · next q => exact lv_if_ge hx hb hdg htg (fun w => absurd q ((z_ge0 hcs.1).mp w)) (fun _ => Kf h)
          · next q => exact lv_if_ge hx hb hdg htg (fun _ => Kt h) (fun w => absurd ((z_ge0 hcs.1).mpr q) w)
        case gt =>
          simp only at h
          split at h
          · next q => exact lv_if_gt hx hb hdg htg (fun _ => Kt h) (fun w => absurd ((z_gt0 hcs.1).mpr q) w)
          · next q => exact lv_if_gt hx hb hdg htg (fun w => absurd ((z_gt0 hcs.1).mp w) q) (fun _ => Kf h)
        case le =>
          simp only at h
          split at h
          · next q => exact lv_if_le hx hb hdg htg (fun w => absurd q ((z_le0 hcs.1).mp w)) (fun _ => Kf h)
          · next q => exact lv_if_le hx hb hdg htg (fun _ => Kt h) (fun w => absurd ((z_le0 hcs.1).mpr q) w)
      · cases h
    · cases hck
  case if_icmp c t =>
    simp only [zstp] at h
    simp only [zck] at hck
    split at hck
    · next c' off hdg =>
      simp only [Bool.and_eq_true, decide_eq_true_eq] at hck
      obtain ⟨⟨rfl, htg⟩, hnx⟩ := hck
      have htg := ztg_of htg
      have hnx := znx_of hnx
      split at h
      · next y x st' =>
        have Kt := fun h => HK t.toNat ls st' σ H locs lsA h ⟨hH, hI, hS, hl, hcl, hcs.2.2⟩ h0 hs0
        have Kf := fun h => HK (pc + 1) ls st' σ H locs lsA h ⟨hH, hI, hS, hl, hcl, hcs.2.2⟩ h0 hs0
        rw [hnx] at Kf
        cases c'
        case eq =>
          simp only at h
          split at h
          · next q => exact lv_icmp_eq hx hb hdg htg (fun _ => Kt h) (fun w => absurd ((z_eq hcs.2.1 hcs.1).mpr q) w)
          · next q => exact lv_icmp_eq hx hb hdg htg (fun w => absurd ((z_eq hcs.2.1 hcs.1).mp w) q) (fun _ => Kf h)
        case ne =>
          simp only at h
          split at h
          · next q => exact lv_icmp_ne hx hb hdg htg (fun w => absurd q ((z_ne hcs.2.1 hcs.1).mp w)) (fun _ => Kf h)
          · next q => exact lv_icmp_ne hx hb hdg htg (fun _ => Kt h) (fun w => absurd w ((z_ne hcs.2.1 hcs.1).mpr q))
        case lt =>
          simp only at h
          split at h
          · next q => exact lv_icmp_lt hx hb hdg htg (fun _ => Kt h) (fun w => absurd ((z_lt hcs.2.1 hcs.1).mpr q) w)
          · next q => exact lv_icmp_lt hx hb hdg htg (fun w => absurd ((z_lt hcs.2.1 hcs.1).mp w) q) (fun _ => Kf h)
        case ge =>
          simp only at h
          split at h
          · next q => exact lv_icmp_ge hx hb hdg htg (fun w => absurd q ((z_ge hcs.2.1 hcs.1).mp w)) (fun _ => Kf h)
          · next q => exact lv_icmp_ge hx hb hdg htg (fun _ => Kt h) (fun w => absurd ((z_ge hcs.2.1 hcs.1).mpr q) w)
        case gt =>
          simp only at h
          split at h
          · next q => exact lv_icmp_gt hx hb hdg htg (fun _ => Kt h) (fun w => absurd ((z_lt hcs.1 hcs.2.1).mpr q) w)
          · next q => exact lv_icmp_gt hx hb hdg htg (fun w => absurd ((z_lt hcs.1 hcs.2.1).mp w) q) (fun _ => Kf h)
        case le =>
          simp only at h
          split at h
          · next q => exact lv_icmp_le hx hb hdg htg (fun w => absurd q ((z_le2 hcs.2.1 hcs.1).mp w)) (fun _ => Kf h)
          · next q => exact lv_icmp_le hx hb hdg htg (fun _ => Kt h) (fun w => absurd ((z_le2 hcs.2.1 hcs.1).mpr q) w)
      · cases h
    · cases hck
  case ifnull t =>
    simp only [zstp] at h
    simp only [zck] at hck
    split at hck
    · next off hdg =>
      rw [Bool.and_eq_true] at hck
      have htg := ztg_of hck.1
      have hnx := znx_of hck.2
      split at h
      · next a st' =>
        split at h
        · next q =>
          subst q
          have K1 := HK t.toNat ls st' σ H locs lsA h ⟨hH, hI, hS, hl, hcl, hcs.2⟩ h0 hs0
          skip
          have e0 : zv g (zA 0) = .null := by show va_rf (zad g 0) = _; rw [zad_0 hRO]; rfl
          show W p l e R s m args below meth c H locs _ _ Z (F0 m (zpc j pc) lsA (zv g (zA 0) :: st'.map (zv g)))
          rw [e0]
          exact lv_ifnullN hx hb hdg htg K1
        · split at h
          · cases h
          · next q2 =>
            obtain ⟨x, e1, -⟩ := zad_some hRO hI.2 q2
            have K1 := HK (pc + 1) ls st' σ H locs lsA h ⟨hH, hI, hS, hl, hcl, hcs.2⟩ h0 hs0
            rw [hnx] at K1
            have e0 : zv g (zA a) = .ref x := by show va_rf (zad g a) = _; rw [e1]; rfl
            show W p l e R s m args below meth c H locs _ _ Z (F0 m (zpc j pc) lsA (zv g (zA a) :: st'.map (zv g)))
            rw [e0]
            exact lv_ifnull hx hb hdg K1
      · cases h
    · cases hck
  case ifnonnull t =>
    simp only [zstp] at h
    simp only [zck] at hck
    split at hck
    · next off hdg =>
      rw [Bool.and_eq_true] at hck
      have htg := ztg_of hck.1
      have hnx := znx_of hck.2
      split at h
      · next a st' =>
        split at h
        · next q =>
          subst q
          have K1 := HK (pc + 1) ls st' σ H locs lsA h ⟨hH, hI, hS, hl, hcl, hcs.2⟩ h0 hs0
          rw [hnx] at K1
          have e0 : zv g (zA 0) = .null := by show va_rf (zad g 0) = _; rw [zad_0 hRO]; rfl
          show W p l e R s m args below meth c H locs _ _ Z (F0 m (zpc j pc) lsA (zv g (zA 0) :: st'.map (zv g)))
          rw [e0]
          exact lv_ifnonnullN hx hb hdg K1
        · split at h
          · cases h
          · next q2 =>
            obtain ⟨x, e1, -⟩ := zad_some hRO hI.2 q2
            have K1 := HK t.toNat ls st' σ H locs lsA h ⟨hH, hI, hS, hl, hcl, hcs.2⟩ h0 hs0
            skip
            have e0 : zv g (zA a) = .ref x := by show va_rf (zad g a) = _; rw [e1]; rfl
            show W p l e R s m args below meth c H locs _ _ Z (F0 m (zpc j pc) lsA (zv g (zA a) :: st'.map (zv g)))
            rw [e0]
            exact lv_ifnonnull hx hb hdg htg K1
      · cases h
    · cases hck
  case tableswitch a lo hi offs =>
    simp only [zstp] at h
    simp only [zck] at hck
    split at hck
    · next d' lo' hi' offs' len hdg =>
      simp only [Bool.and_eq_true, decide_eq_true_eq] at hck
      obtain ⟨⟨⟨⟨rfl, rfl⟩, hd⟩, hof⟩, hle⟩ := hck
      split at h
      · next x st' =>
        rcases zsw_at _ _ h with ⟨i, t, h1, h2, h3⟩ | ⟨h1, h2⟩
        · obtain ⟨off, h4, h5⟩ := ztgs_at _ _ hof i t h1
          have K1 := HK t.toNat ls st' σ H locs lsA h3 ⟨hH, hI, hS, hl, hcl, hcs.2⟩ h0 hs0
          have hi1 : i < offs.toList.length := (List.getElem?_eq_some_iff.mp h1).1
          refine lv_tableIn hx hb hdg (by rw [z_back hcs.1]; omega) (by rw [z_back hcs.1]; omega) (off := off) ?_ (ztg_of h5) K1
          rw [z_back hcs.1, h2, show (lo' + (i : Int) - lo').toNat = i by omega, ← Array.getElem?_toList]
          exact h4
        · have K1 := HK a.toNat ls st' σ H locs lsA h2 ⟨hH, hI, hS, hl, hcl, hcs.2⟩ h0 hs0
          exact lv_tableOut hx hb hdg (by rw [z_back hcs.1]; omega) (ztg_of hd) K1
      · cases h
    · cases hck
  case lookupswitch a ps =>
    simp only [zstp] at h
    simp only [zck] at hck
    split at hck
    · next d' ps' len hdg =>
      simp only [Bool.and_eq_true] at hck
      obtain ⟨⟨hd, hps⟩, hsort⟩ := hck
      split at h
      · next x st' =>
        obtain ⟨t, off, h1, h2, h3⟩ := zlk_at rfl _ _ hps hd h
        have K1 := HK t ls st' σ H locs lsA h1 ⟨hH, hI, hS, hl, hcl, hcs.2⟩ h0 hs0
        exact lv_lookup hx hb hdg hsort (by rw [z_back hcs.1]; exact h2) h3 K1
      · cases h
    · cases hck
  case dup =>
    simp only [zstp] at h
    obtain ⟨hdg, hnx⟩ := zdc_of (show zdc j pc .dup 1 = true from hck)
    split at h
    · next x st' =>
      have K1 := HK (pc + 1) ls (zI x :: zI x :: st') σ H locs lsA h ⟨hH, hI, hS, hl, hcl, ⟨hcs.1, hcs⟩⟩ h0 hs0
      rw [hnx] at K1
      exact lv_dup hx hb hdg rfl K1
    · next x st' =>
      have K1 := HK (pc + 1) ls (zA x :: zA x :: st') σ H locs lsA h ⟨hH, hI, hS, hl, hcl, ⟨hcs.1, hcs⟩⟩ h0 hs0
      rw [hnx] at K1
      exact lv_dup hx hb hdg (zrf_cat _) K1
    · cases h
  case dup2 =>
    simp only [zstp] at h
    obtain ⟨hdg, hnx⟩ := zdc_of (show zdc j pc .dup2 1 = true from hck)
    split at h
    · next x st' =>
      have K1 := HK (pc + 1) ls (zL x :: zL x :: st') σ H locs lsA h ⟨hH, hI, hS, hl, hcl, ⟨hcs.1, hcs⟩⟩ h0 hs0
      rw [hnx] at K1
      exact lv_dup2_2 hx hb hdg rfl K1
    · next y x st' =>
      have K1 := HK (pc + 1) ls (zI y :: zI x :: zI y :: zI x :: st') σ H locs lsA h ⟨hH, hI, hS, hl, hcl, ⟨hcs.1, hcs.2.1, hcs⟩⟩ h0 hs0
      rw [hnx] at K1
      exact lv_dup2_11 hx hb hdg rfl rfl K1
    · next y x st' =>
      have K1 := HK (pc + 1) ls (zI y :: zA x :: zI y :: zA x :: st') σ H locs lsA h ⟨hH, hI, hS, hl, hcl, ⟨hcs.1, hcs.2.1, hcs⟩⟩ h0 hs0
      rw [hnx] at K1
      exact lv_dup2_11 hx hb hdg rfl (zrf_cat _) K1
    · cases h
  case pop =>
    simp only [zstp] at h
    obtain ⟨hdg, hnx⟩ := zdc_of (show zdc j pc .pop 1 = true from hck)
    split at h
    · next x st' =>
      have K1 := HK (pc + 1) ls st' σ H locs lsA h ⟨hH, hI, hS, hl, hcl, hcs.2⟩ h0 hs0
      rw [hnx] at K1
      exact lv_pop hx hb hdg rfl K1
    · next x st' =>
      have K1 := HK (pc + 1) ls st' σ H locs lsA h ⟨hH, hI, hS, hl, hcl, hcs.2⟩ h0 hs0
      rw [hnx] at K1
      exact lv_pop hx hb hdg (zrf_cat _) K1
    · cases h
  case getfield f =>
    simp only [zstp] at h
    split at h
    · next a st' =>
      split at h
      · next cc =>
        have K1 := HK (pc + 1) ls (zrd (f % 4) (σ.2.2.2.1 a (f / 4 % 32)) (σ.2.2.2.2 a (f / 4 % 32)) :: st') σ H locs lsA h ⟨hH, hI, hS, hl, hcl, ⟨zrd_can hck hI.2 cc, hcs.2⟩⟩ h0 hs0
        show W p l e R s m args below meth c H locs _ _ Z (F0 m (zpc j pc) lsA (zv g (zA a) :: st'.map (zv g)))
        simp only [zck] at hck
        split at hck
        · next idx hdg =>
          simp only [Bool.and_eq_true, Bool.or_eq_true, decide_eq_true_eq] at hck
          obtain ⟨hnx, (⟨hfl, ht⟩ | ⟨hf, hw⟩) | ⟨hf, hw⟩⟩ := hck
          · rw [znx_of hnx] at K1
            obtain ⟨h10, hkk, hw, q, hq, hN⟩ := zfl_of hfl
            obtain ⟨e1, hat⟩ := hH.at hI.2 (a := a) (by omega) (by omega)
            rw [zent_obj cc h10] at hat
            have e0 : zv g (zA a) = .ref (g.2.2.1 + (a - 9)) := by show va_rf (zad g a) = _; rw [e1]; rfl
            rw [e0]
            rw [zFl_of hq] at hw
            refine va_get (C := q.1) (T := q.2.1) (N := q.2.2) (ref := (q.2.1 (f / 4 % 32)).1) hx hb hts (zfw hq) hown hK (zP1 hat) 0 rfl hq (f / 4 % 32) (by rw [hN]; exact hkk) (hts _ hw) (fun _ h => h) (v := zv g (zrd (zft (f / 128) (f / 4 % 32)) (σ.2.2.2.1 a (f / 4 % 32)) (σ.2.2.2.2 a (f / 4 % 32)))) (zlist_get _ hkk) hdg ?_
            rw [← ht]
            exact K1
          · rw [znx_of hnx] at K1
            subst hf
            obtain ⟨k0, e1, f1, f2⟩ := zstr_facts hRO hI.2 (a := a) cc
            have e0 : zv g (zA a) = .ref k0 := by show va_rf (zad g a) = _; rw [e1]; rfl
            rw [e0]
            exact vk_getf hx hb f1 hS hown (hts _ (zwd_in hw)) (fun _ h => h) hdg K1
          · rw [znx_of hnx] at K1
            subst hf
            obtain ⟨k0, e1, f1, f2⟩ := zstr_facts hRO hI.2 (a := a) cc
            have e0 : zv g (zA a) = .ref k0 := by show va_rf (zad g a) = _; rw [e1]; rfl
            rw [e0]
            exact vk_getf hx hb f2 hS hown (hts _ (zwd_in hw)) (fun _ h => h) hdg K1
        · cases hck
      · cases h
    · cases h
  case putfield f =>
    simp only [zstp] at h
    obtain ⟨h10, hkk, hft⟩ := zck_pf hck
    simp only [zck] at hck
    split at hck
    · next idx hdg =>
      simp only [Bool.and_eq_true, Bool.or_eq_true, decide_eq_true_eq] at hck
      obtain ⟨⟨⟨hnx, hfl⟩, htyp⟩, hfin⟩ := hck
      have hnx := znx_of hnx
      obtain ⟨-, -, hw, q, hq, hN⟩ := zfl_of hfl
      obtain ⟨ty, t1, t2, -⟩ := zty hq
      have hkN : f / 4 % 32 < q.2.2 := by rw [hN]; exact hkk
      have hd := t1 _ hkN
      have hok := t2 _ hkN
      rw [zFl_of hq] at hw htyp hfin
      have hfin' : (q.2.1 (f / 4 % 32)).2.2.2 = false ∨ (meth.name = "<init>" ∧ (q.2.1 (f / 4 % 32)).1 = zcl j) := hfin.imp id (fun z => ⟨hini z.1, z.2⟩)
      split at h
      · next x a st' e =>
        split at h
        · next cc =>
          have ht0 : zft (f / 128) (f / 4 % 32) = 0 := by rcases htyp with z | z <;> omega
          have hnb : ty (f / 4 % 32) ≠ .boolean := fun z => by
            rcases htyp with z1 | z1
            · omega
            · exact z1.2 (zbool hq hkN (by rw [hd, z]))
          exact zputW (w := zI x) (σ' := (σ.1, σ.2.1, σ.2.2.1, σ.2.2.2.1, zup σ.2.2.2.2 a (f / 4 % 32) x)) hx hb hts hq hown hK hH hI.2 hS cc h10 hkk (hts _ hw) hfin' hd (zn_int hok ht0 hnb _) rfl rfl (fun j hj => ⟨rfl, by show zup _ _ _ _ a j = _; unfold zup; rw [if_neg (fun z => hj z.2)]⟩) (by rw [ht0]; show zI (zup _ _ _ _ a (f / 4 % 32)) = _; unfold zup; rw [if_pos ⟨rfl, rfl⟩]) (fun q hq => zent_put hq) hdg (fun H1 locs1 g1 g2 => by
            have K1 := HK (pc + 1) ls st' (σ.1, σ.2.1, σ.2.2.1, σ.2.2.2.1, zup σ.2.2.2.2 a (f / 4 % 32) x) H1 locs1 lsA h ⟨g1, ⟨hI.1, hI.2.put (hI.2.in (by omega) (by omega)).1 (by rw [cc]; exact zcn_32 (zlg_f h10 (Or.inl e) hft) hcs.1)⟩, g2, hl, hcl, hcs.2.2⟩ h0 hs0
            rw [hnx] at K1
            exact K1)
        · cases h
      · next x a st' e =>
        split at h
        · next cc =>
          have ht0 : zft (f / 128) (f / 4 % 32) = 1 := by rcases htyp with z | z <;> omega
          exact zputW (w := zL x) (σ' := (σ.1, σ.2.1, σ.2.2.1, σ.2.2.2.1, zup σ.2.2.2.2 a (f / 4 % 32) x)) hx hb hts hq hown hK hH hI.2 hS cc h10 hkk (hts _ hw) hfin' hd (zn_long hok ht0 _) rfl rfl (fun j hj => ⟨rfl, by show zup _ _ _ _ a j = _; unfold zup; rw [if_neg (fun z => hj z.2)]⟩) (by rw [ht0]; show zL (zup _ _ _ _ a (f / 4 % 32)) = _; unfold zup; rw [if_pos ⟨rfl, rfl⟩]) (fun q hq => zent_put hq) hdg (fun H1 locs1 g1 g2 => by
            have K1 := HK (pc + 1) ls st' (σ.1, σ.2.1, σ.2.2.1, σ.2.2.2.1, zup σ.2.2.2.2 a (f / 4 % 32) x) H1 locs1 lsA h ⟨g1, ⟨hI.1, hI.2.put (hI.2.in (by omega) (by omega)).1 (by rw [cc]; exact zcn_64 (zlg_t h10 e hft) hcs.1)⟩, g2, hl, hcl, hcs.2.2⟩ h0 hs0
            rw [hnx] at K1
            exact K1)
        · cases h
      · next x a st' e =>
        split at h
        · next cc =>
          have ht0 : zft (f / 128) (f / 4 % 32) = 2 := by rcases htyp with z | z <;> omega
          exact zputW (w := zA x) (σ' := (σ.1, σ.2.1, σ.2.2.1, zupR σ.2.2.2.1 a (f / 4 % 32) x, σ.2.2.2.2)) hx hb hts hq hown hK hH hI.2 hS cc h10 hkk (hts _ hw) hfin' hd (zn_ref hok ht0 _) rfl rfl (fun j hj => ⟨by show zupR _ _ _ _ a j = _; unfold zupR; rw [if_neg (fun z => hj z.2)], rfl⟩) (by rw [ht0]; show zA (zupR _ _ _ _ a (f / 4 % 32)) = _; unfold zupR; rw [if_pos ⟨rfl, rfl⟩]) (fun q hq => zent_putR hq) hdg (fun H1 locs1 g1 g2 => by
            have K1 := HK (pc + 1) ls st' (σ.1, σ.2.1, σ.2.2.1, zupR σ.2.2.2.1 a (f / 4 % 32) x, σ.2.2.2.2) H1 locs1 lsA h ⟨g1, ⟨hI.1, hI.2.putR (hI.2.in (by omega) (by omega)).1⟩, g2, hl, hcl, hcs.2.2⟩ h0 hs0
            rw [hnx] at K1
            exact K1)
        · cases h
      · next x a st' e =>
        split at h
        · next cc =>
          split at h
          · next x01 =>
            have hdZ : (q.2.1 (f / 4 % 32)).2.2.1 = "Z" := by
              rcases htyp with z | z
              · exact z.2
              · exfalso; have := zft_le (f / 128) (f / 4 % 32); omega
            have ht0 : zft (f / 128) (f / 4 % 32) = 0 := zfZ h10 hkk (by rw [zFl_of hq]; exact hdZ)
            have htb : ty (f / 4 % 32) = .boolean := by
              rw [hdZ] at hd
              exact (Option.some.inj hd).symm
            exact zputW (w := zI x) (σ' := (σ.1, σ.2.1, σ.2.2.1, σ.2.2.2.1, zup σ.2.2.2.2 a (f / 4 % 32) x)) hx hb hts hq hown hK hH hI.2 hS cc h10 hkk (hts _ hw) hfin' hd (by rw [htb]; exact zn_bool x01) rfl rfl (fun j hj => ⟨rfl, by show zup _ _ _ _ a j = _; unfold zup; rw [if_neg (fun z => hj z.2)]⟩) (by rw [ht0]; show zI (zup _ _ _ _ a (f / 4 % 32)) = _; unfold zup; rw [if_pos ⟨rfl, rfl⟩]) (fun q hq => zent_put hq) hdg (fun H1 locs1 g1 g2 => by
            have K1 := HK (pc + 1) ls st' (σ.1, σ.2.1, σ.2.2.1, σ.2.2.2.1, zup σ.2.2.2.2 a (f / 4 % 32) x) H1 locs1 lsA h ⟨g1, ⟨hI.1, hI.2.put (hI.2.in (by omega) (by omega)).1 (by rw [cc]; exact zcn_32 (zlg_f h10 (Or.inr e) hft) hcs.1)⟩, g2, hl, hcl, hcs.2.2⟩ h0 hs0
            rw [hnx] at K1
            exact K1)
          · cases h
        · cases h
      · cases h
    · cases hck
  case multianewarray ci n =>
    simp only [zstp] at h
    obtain ⟨h10, hn1⟩ := zck_mn hck
    simp only [zck] at hck
    split at hck
    · next idx q hdg hq =>
      simp only [Bool.and_eq_true, decide_eq_true_eq] at hck
      obtain ⟨⟨⟨⟨hnx, rfl⟩, hw⟩, hi1⟩, hi2⟩ := hck
      have hnx := znx_of hnx
      obtain ⟨ty, t1, t2, hN⟩ := zty hq
      have hg := hkg _ _ _ _ h
      have hg1 : σ.1 + 1 ≤ σ'.1 := hg.1
      have hg2 : σ.2.1 + q.2.2 ≤ σ'.2.1 := hg.2
      refine znew (D := g.1) (fs := (List.range (znf ci)).map fun k => zv g (zrd (zft ci k) 0 0)) hx hb hts (zfw hq) hq hown (hts _ (zwd_in hw)) (hts _ (zhas_good rfl hi1)) (hts _ (zhas_good rfl hi2)) hK t1 (fun k hk => ?_) (by omega) (by omega) hdg (fun H1 hM => ?_)
      · rw [show vp_V ((List.range (znf ci)).map fun k => zv g (zrd (zft ci k) 0 0)) k = zv g (zrd (zft ci k) 0 0) from by unfold vp_V; rw [List.getD_eq_getElem?_getD, zlist_get _ (by omega)]; rfl]
        exact zdef hRO (t2 k hk)
      · obtain ⟨g1, g2, g3⟩ := zM1 (σ' := (σ.1 + 1, σ.2.1 + q.2.2, zupS σ.2.2.1 σ.1 (ci + 1, q.2.2), zrow σ.2.2.2.1 σ.1 (fun _ => 0), zrow σ.2.2.2.2 σ.1 (fun _ => 0))) hH hS hM (by
          rw [zent_obj (ci := ci) (by show (zupS σ.2.2.1 σ.1 (ci + 1, q.2.2) σ.1).1 = _; rw [zupS_at]) h10]
          simp only [zrow_at]) rfl (fun q hq => zent_new hq)
        have K1 := HK (pc + 1) ls (zA σ.1 :: st) _ H1 locs lsA h ⟨g1, ⟨by show 9 ≤ σ.1 + 1; have := hI.1; omega, hI.2.new hI.1 (Or.inl ⟨by omega, by omega⟩) hn1 (fun j => zcn_0 _ j)⟩, g2, hl, hcl, ⟨trivial, hcs⟩⟩ (by show c0 ≤ σ.1 + 1; omega) (by show s0 ≤ σ.2.1 + q.2.2; omega)
        rw [hnx] at K1
        refine W.cs (by omega) (by omega) ?_ (cells' := σ.1 + 1 - c0) (slots' := σ.2.1 + q.2.2 - s0)
        rw [← g3]
        exact K1
    · cases hck
  case anewarray t =>
    simp only [zstp] at h
    simp only [zck] at hck
    split at h
    · next x st' =>
      split at h
      · next hx0 =>
        have hg := hkg _ _ _ _ h
        have hg1 : σ.1 + 1 ≤ σ'.1 := hg.1
        have hg2 : σ.2.1 + x.toNat ≤ σ'.2.1 := hg.2
        split at hck
        · next hdg =>
          simp only [Bool.and_eq_true, decide_eq_true_eq] at hck
          obtain ⟨⟨hnx, rfl⟩, hw⟩ := hck
          have hnx := znx_of hnx
          obtain ⟨-, hRA⟩ := zK_at hK (k := 0) rfl
          refine znewa (D := g.1) (atype := .int) (N' := x.toNat) (a0 := (x.toNat, .inl (fun _ => 0))) hx hb rfl (hts _ (zhas_good rfl hw)) hRA rfl (fun z => absurd ((z_lt0 hcs.1).mp z) (by omega)) (z_clamp hcs.1) (by show x.toNat * 4 ≤ _; omega) (by omega) (by omega) hdg (fun H1 hM => ?_)
          obtain ⟨g1, g2, g3⟩ := zM1 (σ' := (σ.1 + 1, σ.2.1 + x.toNat, zupS σ.2.2.1 σ.1 (20, x.toNat), zrow σ.2.2.2.1 σ.1 (fun _ => 0), zrow σ.2.2.2.2 σ.1 (fun _ => 0))) hH hS hM (by
            rw [zent_int (by show (zupS σ.2.2.1 σ.1 (20, x.toNat) σ.1).1 = 20 ∨ (zupS σ.2.2.1 σ.1 (20, x.toNat) σ.1).1 = 21 ∨ (zupS σ.2.2.1 σ.1 (20, x.toNat) σ.1).1 = 23; rw [zupS_at]; simp)]
            simp only [zupS_at, zrow_at]
            rfl) rfl (fun q hq => zent_new hq)
          have K1 := HK (pc + 1) ls (zA σ.1 :: st') _ H1 locs lsA h ⟨g1, ⟨by show 9 ≤ σ.1 + 1; have := hI.1; omega, hI.2.new hI.1 (Or.inr ⟨by omega, by omega⟩) (by omega) (fun j => zcn_0 _ j)⟩, g2, hl, hcl, ⟨trivial, hcs.2⟩⟩ (by show c0 ≤ σ.1 + 1; omega) (by show s0 ≤ σ.2.1 + x.toNat; omega)
          rw [hnx] at K1
          refine W.cs (by omega) (by omega) ?_ (cells' := σ.1 + 1 - c0) (slots' := σ.2.1 + x.toNat - s0)
          rw [← g3]
          exact K1
        · next hdg =>
          simp only [Bool.and_eq_true, decide_eq_true_eq] at hck
          obtain ⟨⟨hnx, rfl⟩, hw⟩ := hck
          have hnx := znx_of hnx
          obtain ⟨-, hRA⟩ := zK_at hK (k := 1) rfl
          refine znewa (D := g.1) (atype := .char) (N' := x.toNat) (a0 := (x.toNat, .inl (fun _ => 0))) hx hb rfl (hts _ (zhas_good rfl hw)) hRA rfl (fun z => absurd ((z_lt0 hcs.1).mp z) (by omega)) (z_clamp hcs.1) (by show x.toNat * 2 ≤ _; omega) (by omega) (by omega) hdg (fun H1 hM => ?_)
          obtain ⟨g1, g2, g3⟩ := zM1 (σ' := (σ.1 + 1, σ.2.1 + x.toNat, zupS σ.2.2.1 σ.1 (21, x.toNat), zrow σ.2.2.2.1 σ.1 (fun _ => 0), zrow σ.2.2.2.2 σ.1 (fun _ => 0))) hH hS hM (by
            rw [zent_int (by show (zupS σ.2.2.1 σ.1 (21, x.toNat) σ.1).1 = 20 ∨ (zupS σ.2.2.1 σ.1 (21, x.toNat) σ.1).1 = 21 ∨ (zupS σ.2.2.1 σ.1 (21, x.toNat) σ.1).1 = 23; rw [zupS_at]; simp)]
            simp only [zupS_at, zrow_at]
            rfl) rfl (fun q hq => zent_new hq)
          have K1 := HK (pc + 1) ls (zA σ.1 :: st') _ H1 locs lsA h ⟨g1, ⟨by show 9 ≤ σ.1 + 1; have := hI.1; omega, hI.2.new hI.1 (Or.inr ⟨by omega, by omega⟩) (by omega) (fun j => zcn_0 _ j)⟩, g2, hl, hcl, ⟨trivial, hcs.2⟩⟩ (by show c0 ≤ σ.1 + 1; omega) (by show s0 ≤ σ.2.1 + x.toNat; omega)
          rw [hnx] at K1
          refine W.cs (by omega) (by omega) ?_ (cells' := σ.1 + 1 - c0) (slots' := σ.2.1 + x.toNat - s0)
          rw [← g3]
          exact K1
        · next hdg =>
          simp only [Bool.and_eq_true, decide_eq_true_eq] at hck
          obtain ⟨⟨hnx, rfl⟩, hw⟩ := hck
          have hnx := znx_of hnx
          obtain ⟨-, hRA⟩ := zK_at hK (k := 2) rfl
          refine znewa (D := g.1) (atype := .long) (N' := x.toNat) (a0 := (x.toNat, .inr (.inl (fun _ => 0)))) hx hb rfl (hts _ (zhas_good rfl hw)) hRA rfl (fun z => absurd ((z_lt0 hcs.1).mp z) (by omega)) (z_clamp hcs.1) (by show x.toNat * 8 ≤ _; omega) (by omega) (by omega) hdg (fun H1 hM => ?_)
          obtain ⟨g1, g2, g3⟩ := zM1 (σ' := (σ.1 + 1, σ.2.1 + x.toNat, zupS σ.2.2.1 σ.1 (22, x.toNat), zrow σ.2.2.2.1 σ.1 (fun _ => 0), zrow σ.2.2.2.2 σ.1 (fun _ => 0))) hH hS hM (by
            rw [zent_long (by show (zupS σ.2.2.1 σ.1 (22, x.toNat) σ.1).1 = 22; rw [zupS_at])]
            simp only [zupS_at, zrow_at]
            rfl) rfl (fun q hq => zent_new hq)
          have K1 := HK (pc + 1) ls (zA σ.1 :: st') _ H1 locs lsA h ⟨g1, ⟨by show 9 ≤ σ.1 + 1; have := hI.1; omega, hI.2.new hI.1 (Or.inr ⟨by omega, by omega⟩) (by omega) (fun j => zcn_0 _ j)⟩, g2, hl, hcl, ⟨trivial, hcs.2⟩⟩ (by show c0 ≤ σ.1 + 1; omega) (by show s0 ≤ σ.2.1 + x.toNat; omega)
          rw [hnx] at K1
          refine W.cs (by omega) (by omega) ?_ (cells' := σ.1 + 1 - c0) (slots' := σ.2.1 + x.toNat - s0)
          rw [← g3]
          exact K1
        · next hdg =>
          simp only [Bool.and_eq_true, decide_eq_true_eq] at hck
          obtain ⟨⟨hnx, rfl⟩, hw⟩ := hck
          have hnx := znx_of hnx
          obtain ⟨-, hRA⟩ := zK_at hK (k := 3) rfl
          refine znewa (D := g.1) (atype := .boolean) (N' := x.toNat) (a0 := (x.toNat, .inl (fun _ => 0))) hx hb rfl (hts _ (zhas_good rfl hw)) hRA rfl (fun z => absurd ((z_lt0 hcs.1).mp z) (by omega)) (z_clamp hcs.1) (by show x.toNat * 1 ≤ _; omega) (by omega) (by omega) hdg (fun H1 hM => ?_)
          obtain ⟨g1, g2, g3⟩ := zM1 (σ' := (σ.1 + 1, σ.2.1 + x.toNat, zupS σ.2.2.1 σ.1 (23, x.toNat), zrow σ.2.2.2.1 σ.1 (fun _ => 0), zrow σ.2.2.2.2 σ.1 (fun _ => 0))) hH hS hM (by
            rw [zent_int (by show (zupS σ.2.2.1 σ.1 (23, x.toNat) σ.1).1 = 20 ∨ (zupS σ.2.2.1 σ.1 (23, x.toNat) σ.1).1 = 21 ∨ (zupS σ.2.2.1 σ.1 (23, x.toNat) σ.1).1 = 23; rw [zupS_at]; simp)]
            simp only [zupS_at, zrow_at]
            rfl) rfl (fun q hq => zent_new hq)
          have K1 := HK (pc + 1) ls (zA σ.1 :: st') _ H1 locs lsA h ⟨g1, ⟨by show 9 ≤ σ.1 + 1; have := hI.1; omega, hI.2.new hI.1 (Or.inr ⟨by omega, by omega⟩) (by omega) (fun j => zcn_0 _ j)⟩, g2, hl, hcl, ⟨trivial, hcs.2⟩⟩ (by show c0 ≤ σ.1 + 1; omega) (by show s0 ≤ σ.2.1 + x.toNat; omega)
          rw [hnx] at K1
          refine W.cs (by omega) (by omega) ?_ (cells' := σ.1 + 1 - c0) (slots' := σ.2.1 + x.toNat - s0)
          rw [← g3]
          exact K1
        · next idx hdg =>
          simp only [Bool.and_eq_true, Bool.or_eq_true, decide_eq_true_eq] at hck
          obtain ⟨hnx, ⟨⟨rfl, hw⟩, ho⟩ | ⟨⟨rfl, hw⟩, ho⟩⟩ := hck
          · skip
            have hnx := znx_of hnx
            obtain ⟨-, kA, comp, -, -, -, hnm⟩ := zK_at hK (k := 4) rfl
            refine znewq (D := g.1) (N' := x.toNat) hx hb hown (hts _ (zwd_in hw)) (va_AO.use hRO.2.2.2.2.2.2.2.2.2.1) hnm (fun z => absurd ((z_lt0 hcs.1).mp z) (by omega)) (z_clamp hcs.1) (by omega) (by omega) (by omega) hdg (fun H1 hM => ?_)
            obtain ⟨g1, g2, g3⟩ := zM1 (σ' := (σ.1 + 1, σ.2.1 + x.toNat, zupS σ.2.2.1 σ.1 (24, x.toNat), zrow σ.2.2.2.1 σ.1 (fun _ => 0), zrow σ.2.2.2.2 σ.1 (fun _ => 0))) hH hS hM (by
              rw [zent_ref (by show (zupS σ.2.2.1 σ.1 (24, x.toNat) σ.1).1 = 24 ∨ (zupS σ.2.2.1 σ.1 (24, x.toNat) σ.1).1 = 25; rw [zupS_at]; simp)]
              simp only [zupS_at, zrow_at, zad_0 hRO]) rfl (fun q hq => zent_new hq)
            have K1 := HK (pc + 1) ls (zA σ.1 :: st') _ H1 locs lsA h ⟨g1, ⟨by show 9 ≤ σ.1 + 1; have := hI.1; omega, hI.2.new hI.1 (Or.inr ⟨by omega, by omega⟩) (by omega) (fun j => zcn_0 _ j)⟩, g2, hl, hcl, ⟨trivial, hcs.2⟩⟩ (by show c0 ≤ σ.1 + 1; omega) (by show s0 ≤ σ.2.1 + x.toNat; omega)
            rw [hnx] at K1
            refine W.cs (by omega) (by omega) ?_ (cells' := σ.1 + 1 - c0) (slots' := σ.2.1 + x.toNat - s0)
            rw [← g3]
            exact K1
          · skip
            have hnx := znx_of hnx
            obtain ⟨-, kA, comp, -, -, -, hnm⟩ := zK_at hK (k := 5) rfl
            refine znewq (D := g.1) (N' := x.toNat) hx hb hown (hts _ (zwd_in hw)) (va_AO.use hRO.2.2.2.2.2.2.2.2.2.2) hnm (fun z => absurd ((z_lt0 hcs.1).mp z) (by omega)) (z_clamp hcs.1) (by omega) (by omega) (by omega) hdg (fun H1 hM => ?_)
            obtain ⟨g1, g2, g3⟩ := zM1 (σ' := (σ.1 + 1, σ.2.1 + x.toNat, zupS σ.2.2.1 σ.1 (25, x.toNat), zrow σ.2.2.2.1 σ.1 (fun _ => 0), zrow σ.2.2.2.2 σ.1 (fun _ => 0))) hH hS hM (by
              rw [zent_ref (by show (zupS σ.2.2.1 σ.1 (25, x.toNat) σ.1).1 = 24 ∨ (zupS σ.2.2.1 σ.1 (25, x.toNat) σ.1).1 = 25; rw [zupS_at]; simp)]
              simp only [zupS_at, zrow_at, zad_0 hRO]) rfl (fun q hq => zent_new hq)
            have K1 := HK (pc + 1) ls (zA σ.1 :: st') _ H1 locs lsA h ⟨g1, ⟨by show 9 ≤ σ.1 + 1; have := hI.1; omega, hI.2.new hI.1 (Or.inr ⟨by omega, by omega⟩) (by omega) (fun j => zcn_0 _ j)⟩, g2, hl, hcl, ⟨trivial, hcs.2⟩⟩ (by show c0 ≤ σ.1 + 1; omega) (by show s0 ≤ σ.2.1 + x.toNat; omega)
            rw [hnx] at K1
            refine W.cs (by omega) (by omega) ?_ (cells' := σ.1 + 1 - c0) (slots' := σ.2.1 + x.toNat - s0)
            rw [← g3]
            exact K1
        · cases hck
      · cases h
    · cases h
  case arraylength =>
    simp only [zstp] at h
    obtain ⟨hdg, hnx⟩ := zdc_of (show zdc j pc .arraylength 1 = true from hck)
    split at h
    · next a st' =>
      split at h
      · next cc =>
        have K1 := HK (pc + 1) ls (zI ((σ.2.2.1 a).2 : Nat) :: st') σ H locs lsA h ⟨hH, hI, hS, hl, hcl, ⟨z_len hI.2 _, hcs.2⟩⟩ h0 hs0
        rw [hnx] at K1
        exact zalenW hx hb hK hRO hH hI.2 hS cc hdg K1
      · cases h
    · cases h
  case iaload =>
    simp only [zstp] at h
    obtain ⟨hdg, hnx⟩ := zdc_of (show zdc j pc .iaload 1 = true from hck)
    split at h
    · next i a st' =>
      split at h
      · next cc =>
        have K1 := HK (pc + 1) ls (zI (σ.2.2.2.2 a i.toNat) :: st') σ H locs lsA h ⟨hH, hI, hS, hl, hcl, ⟨zrd32 hI.2 (by omega) _, hcs.2.2⟩⟩ h0 hs0
        rw [hnx] at K1
        exact zialdW hx hb hK hRO hH hI.2 hS hcs.1 cc hdg K1
      · cases h
    · cases h
  case baload =>
    simp only [zstp] at h
    obtain ⟨hdg, hnx⟩ := zdc_of (show zdc j pc .baload 1 = true from hck)
    split at h
    · next i a st' =>
      split at h
      · next cc =>
        have K1 := HK (pc + 1) ls (zI (σ.2.2.2.2 a i.toNat) :: st') σ H locs lsA h ⟨hH, hI, hS, hl, hcl, ⟨zrd32 hI.2 (by omega) _, hcs.2.2⟩⟩ h0 hs0
        rw [hnx] at K1
        exact zbaldW hx hb hK hRO hH hI.2 hS hcs.1 cc hdg K1
      · cases h
    · cases h
  case caload =>
    simp only [zstp] at h
    obtain ⟨hdg, hnx⟩ := zdc_of (show zdc j pc .caload 1 = true from hck)
    split at h
    · next i a st' =>
      split at h
      · next cc =>
        have K1 := HK (pc + 1) ls (zI (σ.2.2.2.2 a i.toNat) :: st') σ H locs lsA h ⟨hH, hI, hS, hl, hcl, ⟨zrd32 hI.2 (by omega) _, hcs.2.2⟩⟩ h0 hs0
        rw [hnx] at K1
        obtain ⟨hin, hclp⟩ := zin_of hcs.1 cc.2.1 cc.2.2
        obtain ⟨hat, -, e0⟩ := zarr hH hI.2 (a := a) (by omega)
        rw [zent_int (Or.inr (Or.inl cc.1))] at hat
        show W p l e R s m args below meth c H locs _ _ Z (F0 m (zpc j pc) lsA (.int (Int32.ofInt i) :: zv g (zA a) :: st'.map (zv g)))
        rw [e0]
        refine va_cald hx hb hK (zP1 hat) 0 1 rfl (by rw [cc.1]; rfl) hin hdg ?_
        simp only [hclp]
        exact K1
      · cases h
    · cases h
  case laload =>
    simp only [zstp] at h
    obtain ⟨hdg, hnx⟩ := zdc_of (show zdc j pc .laload 1 = true from hck)
    split at h
    · next i a st' =>
      split at h
      · next cc =>
        have K1 := HK (pc + 1) ls (zL (σ.2.2.2.2 a i.toNat) :: st') σ H locs lsA h ⟨hH, hI, hS, hl, hcl, ⟨zrd64 hI.2 (by omega) _, hcs.2.2⟩⟩ h0 hs0
        rw [hnx] at K1
        obtain ⟨hin, hclp⟩ := zin_of hcs.1 cc.2.1 cc.2.2
        obtain ⟨hat, -, e0⟩ := zarr hH hI.2 (a := a) (by omega)
        rw [zent_long cc.1] at hat
        show W p l e R s m args below meth c H locs _ _ Z (F0 m (zpc j pc) lsA (.int (Int32.ofInt i) :: zv g (zA a) :: st'.map (zv g)))
        rw [e0]
        refine va_lald hx hb hK (zP1 hat) 0 2 rfl rfl hin hdg ?_
        simp only [hclp]
        exact K1
      · cases h
    · cases h
  case aaload =>
    simp only [zstp] at h
    obtain ⟨hdg, hnx⟩ := zdc_of (show zdc j pc .aaload 1 = true from hck)
    split at h
    · next i a st' =>
      split at h
      · next cc =>
        have K1 := HK (pc + 1) ls (zA (σ.2.2.2.1 a i.toNat) :: st') σ H locs lsA h ⟨hH, hI, hS, hl, hcl, ⟨trivial, hcs.2.2⟩⟩ h0 hs0
        rw [hnx] at K1
        obtain ⟨hin, hclp⟩ := zin_of hcs.1 cc.2.1 cc.2.2
        obtain ⟨hat, -, e0⟩ := zarr hH hI.2 (a := a) (by omega)
        rw [zent_ref cc.1] at hat
        show W p l e R s m args below meth c H locs _ _ Z (F0 m (zpc j pc) lsA (.int (Int32.ofInt i) :: zv g (zA a) :: st'.map (zv g)))
        rw [e0]
        rcases cc.1 with hk | hk
        · refine va_aldq hx hb hK (zP1 hat) 0 4 rfl (by rw [hk]; rfl) hin hdg ?_
          simp only [hclp]
          exact K1
        · refine va_aldq hx hb hK (zP1 hat) 0 5 rfl (by rw [hk]; rfl) hin hdg ?_
          simp only [hclp]
          exact K1
      · cases h
    · cases h
  case iastore =>
    simp only [zstp] at h
    obtain ⟨hdg, hnx⟩ := zdc_of (show zdc j pc .iastore 1 = true from hck)
    split at h
    · next x i a st' =>
      split at h
      · next cc =>
        obtain ⟨hin, hclp⟩ := zin_of hcs.2.1 cc.2.1 cc.2.2
        obtain ⟨hat, hin9, e0⟩ := zarr hH hI.2 (a := a) (by omega)
        rw [zent_int (Or.inl cc.1)] at hat
        show W p l e R s m args below meth c H locs _ _ Z (F0 m (zpc j pc) lsA (.int (Int32.ofInt x) :: .int (Int32.ofInt i) :: zv g (zA a) :: st'.map (zv g)))
        rw [e0]
        refine ziast hx hb hat (by have := (zK_at hK (k := 0) rfl).1; rw [cc.1]; exact this) hin hdg fun H1 locs1 hA => ?_
        obtain ⟨g1, g2⟩ := zW1 (σ' := (σ.1, σ.2.1, σ.2.2.1, σ.2.2.2.1, zup σ.2.2.2.2 a i.toNat x)) hH hS hin9 hA (by
          rw [zent_int (Or.inl (show (((σ.1, σ.2.1, σ.2.2.1, σ.2.2.2.1, zup σ.2.2.2.2 a i.toNat x) : zS).2.2.1 a).1 = 20 from cc.1))]
          rw [hclp]
          show _ = Sum.inl (_, _, Sum.inl (fun j => Int32.ofInt (zup σ.2.2.2.2 a i.toNat x a j)))
          rw [zup_row]) rfl (fun q hq => zent_put hq)
        have K1 := HK (pc + 1) ls st' _ H1 locs1 lsA h ⟨g1, ⟨hI.1, hI.2.put hin9.1 (by rw [cc.1]; exact zcn_32 rfl hcs.1)⟩, g2, hl, hcl, hcs.2.2.2⟩ h0 hs0
        rw [hnx] at K1
        exact K1
      · cases h
    · cases h
  case castore =>
    simp only [zstp] at h
    obtain ⟨hdg, hnx⟩ := zdc_of (show zdc j pc .castore 1 = true from hck)
    split at h
    · next x i a st' =>
      split at h
      · next cc =>
        split at h
        · next xr =>
          obtain ⟨hin, hclp⟩ := zin_of hcs.2.1 cc.2.1 cc.2.2
          obtain ⟨hat, hin9, e0⟩ := zarr hH hI.2 (a := a) (by omega)
          rw [zent_int (Or.inr (Or.inl cc.1))] at hat
          show W p l e R s m args below meth c H locs _ _ Z (F0 m (zpc j pc) lsA (.int (Int32.ofInt x) :: .int (Int32.ofInt i) :: zv g (zA a) :: st'.map (zv g)))
          rw [e0]
          refine zcast hx hb hat (by have := (zK_at hK (k := 1) rfl).1; rw [cc.1]; exact this) (zn_char xr) hin hdg fun H1 locs1 hA => ?_
          obtain ⟨g1, g2⟩ := zW1 (σ' := (σ.1, σ.2.1, σ.2.2.1, σ.2.2.2.1, zup σ.2.2.2.2 a i.toNat x)) hH hS hin9 hA (by
            rw [zent_int (Or.inr (Or.inl (show (((σ.1, σ.2.1, σ.2.2.1, σ.2.2.2.1, zup σ.2.2.2.2 a i.toNat x) : zS).2.2.1 a).1 = 21 from cc.1)))]
            rw [hclp]
            show _ = Sum.inl (_, _, Sum.inl (fun j => Int32.ofInt (zup σ.2.2.2.2 a i.toNat x a j)))
            rw [zup_row]) rfl (fun q hq => zent_put hq)
          have K1 := HK (pc + 1) ls st' _ H1 locs1 lsA h ⟨g1, ⟨hI.1, hI.2.put hin9.1 (by rw [cc.1]; exact zcn_32 rfl hcs.1)⟩, g2, hl, hcl, hcs.2.2.2⟩ h0 hs0
          rw [hnx] at K1
          exact K1
        · cases h
      · cases h
    · cases h
  case bastore =>
    simp only [zstp] at h
    obtain ⟨hdg, hnx⟩ := zdc_of (show zdc j pc .bastore 1 = true from hck)
    split at h
    · next x i a st' =>
      split at h
      · next cc =>
        split at h
        · next xr =>
          obtain ⟨hin, hclp⟩ := zin_of hcs.2.1 cc.2.1 cc.2.2
          obtain ⟨hat, hin9, e0⟩ := zarr hH hI.2 (a := a) (by omega)
          rw [zent_int (Or.inr (Or.inr cc.1))] at hat
          show W p l e R s m args below meth c H locs _ _ Z (F0 m (zpc j pc) lsA (.int (Int32.ofInt x) :: .int (Int32.ofInt i) :: zv g (zA a) :: st'.map (zv g)))
          rw [e0]
          refine zzast hx hb hat (by have := (zK_at hK (k := 3) rfl).1; rw [cc.1]; exact this) (zn_bool xr).1 hin hdg fun H1 locs1 hA => ?_
          obtain ⟨g1, g2⟩ := zW1 (σ' := (σ.1, σ.2.1, σ.2.2.1, σ.2.2.2.1, zup σ.2.2.2.2 a i.toNat x)) hH hS hin9 hA (by
            rw [zent_int (Or.inr (Or.inr (show (((σ.1, σ.2.1, σ.2.2.1, σ.2.2.2.1, zup σ.2.2.2.2 a i.toNat x) : zS).2.2.1 a).1 = 23 from cc.1)))]
            rw [hclp]
            show _ = Sum.inl (_, _, Sum.inl (fun j => Int32.ofInt (zup σ.2.2.2.2 a i.toNat x a j)))
            rw [zup_row]) rfl (fun q hq => zent_put hq)
          have K1 := HK (pc + 1) ls st' _ H1 locs1 lsA h ⟨g1, ⟨hI.1, hI.2.put hin9.1 (by rw [cc.1]; exact zcn_32 rfl hcs.1)⟩, g2, hl, hcl, hcs.2.2.2⟩ h0 hs0
          rw [hnx] at K1
          exact K1
        · cases h
      · cases h
    · cases h
  case lastore =>
    simp only [zstp] at h
    obtain ⟨hdg, hnx⟩ := zdc_of (show zdc j pc .lastore 1 = true from hck)
    split at h
    · next x i a st' =>
      split at h
      · next cc =>
        obtain ⟨hin, hclp⟩ := zin_of hcs.2.1 cc.2.1 cc.2.2
        obtain ⟨hat, hin9, e0⟩ := zarr hH hI.2 (a := a) (by omega)
        rw [zent_long cc.1] at hat
        show W p l e R s m args below meth c H locs _ _ Z (F0 m (zpc j pc) lsA (.long (Int64.ofInt x) :: .int (Int32.ofInt i) :: zv g (zA a) :: st'.map (zv g)))
        rw [e0]
        refine zlast hx hb hat (by have := (zK_at hK (k := 2) rfl).1; exact this) hin hdg fun H1 locs1 hA => ?_
        obtain ⟨g1, g2⟩ := zW1 (σ' := (σ.1, σ.2.1, σ.2.2.1, σ.2.2.2.1, zup σ.2.2.2.2 a i.toNat x)) hH hS hin9 hA (by
          rw [zent_long (show (((σ.1, σ.2.1, σ.2.2.1, σ.2.2.2.1, zup σ.2.2.2.2 a i.toNat x) : zS).2.2.1 a).1 = 22 from cc.1)]
          rw [hclp]
          show _ = Sum.inl (_, _, Sum.inr (Sum.inl (fun j => Int64.ofInt (zup σ.2.2.2.2 a i.toNat x a j))))
          rw [zup_rowL]) rfl (fun q hq => zent_put hq)
        have K1 := HK (pc + 1) ls st' _ H1 locs1 lsA h ⟨g1, ⟨hI.1, hI.2.put hin9.1 (by rw [cc.1]; exact zcn_64 rfl hcs.1)⟩, g2, hl, hcl, hcs.2.2.2⟩ h0 hs0
        rw [hnx] at K1
        exact K1
      · cases h
    · cases h
  case aastore =>
    simp only [zstp] at h
    obtain ⟨hdg, hnx⟩ := zdc_of (show zdc j pc .aastore 1 = true from hck)
    split at h
    · next x i a st' =>
      split at h
      · next cc =>
        obtain ⟨hin, hclp⟩ := zin_of hcs.2.1 cc.2.1 cc.2.2
        obtain ⟨hat, hin9, e0⟩ := zarr hH hI.2 (a := a) (by omega)
        rw [zent_ref (by omega)] at hat
        show W p l e R s m args below meth c H locs _ _ Z (F0 m (zpc j pc) lsA (zv g (zA x) :: .int (Int32.ofInt i) :: zv g (zA a) :: st'.map (zv g)))
        rw [e0]
        rcases cc.1 with ⟨hk, hx0⟩ | ⟨hk, hx0⟩
        · rcases hx0 with hx0 | hx0
          · subst hx0
            have ez : zad g 0 = none := zad_0 hRO
            have e1 : zv g (zA 0) = .null := by show va_rf (zad g 0) = _; rw [ez]; rfl
            rw [e1]
            refine zaastN (C := "TreesLendRings$Rings") hx hb hat (by have := (zK_at hK (k := 4) rfl).1; rw [hk]; exact this) hin hdg fun H1 locs1 hA => ?_
            obtain ⟨g1, g2⟩ := zW1 (σ' := (σ.1, σ.2.1, σ.2.2.1, zupR σ.2.2.2.1 a i.toNat 0, σ.2.2.2.2)) hH hS hin9 hA (by
              rw [zent_ref (show (((σ.1, σ.2.1, σ.2.2.1, zupR σ.2.2.2.1 a i.toNat 0, σ.2.2.2.2) : zS).2.2.1 a).1 = 24 ∨ (((σ.1, σ.2.1, σ.2.2.1, zupR σ.2.2.2.1 a i.toNat 0, σ.2.2.2.2) : zS).2.2.1 a).1 = 25 from by show (σ.2.2.1 a).1 = 24 ∨ (σ.2.2.1 a).1 = 25; omega)]
              rw [hclp, ← ez]
              show _ = Sum.inl (_, _, Sum.inr (Sum.inr (Sum.inr (Sum.inr (fun j => zad g (zupR σ.2.2.2.1 a i.toNat 0 a j))))))
              rw [zup_rowR]) rfl (fun q hq => zent_putR hq)
            have K1 := HK (pc + 1) ls st' _ H1 locs1 lsA h ⟨g1, ⟨hI.1, hI.2.putR hin9.1⟩, g2, hl, hcl, hcs.2.2.2⟩ h0 hs0
            rw [hnx] at K1
            exact K1
          · obtain ⟨hatx, -, e1⟩ := zobj hH hI.2 (a := x) (ci := 4) hx0 (by decide)
            have ez : zad g x = some (g.2.2.1 + (x - 9)) := by
              have := e1
              revert this
              show va_rf (zad g x) = _ → _
              cases zad g x with
              | none => intro z; cases z
              | some y => intro z; cases z; rfl
            rw [e1]
            refine zaast hx hb hK 4 4 (r := (RX4, TX4, 7)) hat (by rw [hk]; rfl) hatx rfl hin hdg fun H1 locs1 hA => ?_
            obtain ⟨g1, g2⟩ := zW1 (σ' := (σ.1, σ.2.1, σ.2.2.1, zupR σ.2.2.2.1 a i.toNat x, σ.2.2.2.2)) hH hS hin9 hA (by
              rw [zent_ref (show (((σ.1, σ.2.1, σ.2.2.1, zupR σ.2.2.2.1 a i.toNat x, σ.2.2.2.2) : zS).2.2.1 a).1 = 24 ∨ (((σ.1, σ.2.1, σ.2.2.1, zupR σ.2.2.2.1 a i.toNat x, σ.2.2.2.2) : zS).2.2.1 a).1 = 25 from by show (σ.2.2.1 a).1 = 24 ∨ (σ.2.2.1 a).1 = 25; omega)]
              rw [hclp, ← ez]
              show _ = Sum.inl (_, _, Sum.inr (Sum.inr (Sum.inr (Sum.inr (fun j => zad g (zupR σ.2.2.2.1 a i.toNat x a j))))))
              rw [zup_rowR]) rfl (fun q hq => zent_putR hq)
            have K1 := HK (pc + 1) ls st' _ H1 locs1 lsA h ⟨g1, ⟨hI.1, hI.2.putR hin9.1⟩, g2, hl, hcl, hcs.2.2.2⟩ h0 hs0
            rw [hnx] at K1
            exact K1
        · rcases hx0 with hx0 | hx0
          · subst hx0
            have ez : zad g 0 = none := zad_0 hRO
            have e1 : zv g (zA 0) = .null := by show va_rf (zad g 0) = _; rw [ez]; rfl
            rw [e1]
            refine zaastN (C := "TreesLendRings$Text") hx hb hat (by have := (zK_at hK (k := 5) rfl).1; rw [hk]; exact this) hin hdg fun H1 locs1 hA => ?_
            obtain ⟨g1, g2⟩ := zW1 (σ' := (σ.1, σ.2.1, σ.2.2.1, zupR σ.2.2.2.1 a i.toNat 0, σ.2.2.2.2)) hH hS hin9 hA (by
              rw [zent_ref (show (((σ.1, σ.2.1, σ.2.2.1, zupR σ.2.2.2.1 a i.toNat 0, σ.2.2.2.2) : zS).2.2.1 a).1 = 24 ∨ (((σ.1, σ.2.1, σ.2.2.1, zupR σ.2.2.2.1 a i.toNat 0, σ.2.2.2.2) : zS).2.2.1 a).1 = 25 from by show (σ.2.2.1 a).1 = 24 ∨ (σ.2.2.1 a).1 = 25; omega)]
              rw [hclp, ← ez]
              show _ = Sum.inl (_, _, Sum.inr (Sum.inr (Sum.inr (Sum.inr (fun j => zad g (zupR σ.2.2.2.1 a i.toNat 0 a j))))))
              rw [zup_rowR]) rfl (fun q hq => zent_putR hq)
            have K1 := HK (pc + 1) ls st' _ H1 locs1 lsA h ⟨g1, ⟨hI.1, hI.2.putR hin9.1⟩, g2, hl, hcl, hcs.2.2.2⟩ h0 hs0
            rw [hnx] at K1
            exact K1
          · obtain ⟨hatx, -, e1⟩ := zobj hH hI.2 (a := x) (ci := 6) hx0 (by decide)
            have ez : zad g x = some (g.2.2.1 + (x - 9)) := by
              have := e1
              revert this
              show va_rf (zad g x) = _ → _
              cases zad g x with
              | none => intro z; cases z
              | some y => intro z; cases z; rfl
            rw [e1]
            refine zaast hx hb hK 5 6 (r := (RX7, TX7, 4)) hat (by rw [hk]; rfl) hatx rfl hin hdg fun H1 locs1 hA => ?_
            obtain ⟨g1, g2⟩ := zW1 (σ' := (σ.1, σ.2.1, σ.2.2.1, zupR σ.2.2.2.1 a i.toNat x, σ.2.2.2.2)) hH hS hin9 hA (by
              rw [zent_ref (show (((σ.1, σ.2.1, σ.2.2.1, zupR σ.2.2.2.1 a i.toNat x, σ.2.2.2.2) : zS).2.2.1 a).1 = 24 ∨ (((σ.1, σ.2.1, σ.2.2.1, zupR σ.2.2.2.1 a i.toNat x, σ.2.2.2.2) : zS).2.2.1 a).1 = 25 from by show (σ.2.2.1 a).1 = 24 ∨ (σ.2.2.1 a).1 = 25; omega)]
              rw [hclp, ← ez]
              show _ = Sum.inl (_, _, Sum.inr (Sum.inr (Sum.inr (Sum.inr (fun j => zad g (zupR σ.2.2.2.1 a i.toNat x a j))))))
              rw [zup_rowR]) rfl (fun q hq => zent_putR hq)
            have K1 := HK (pc + 1) ls st' _ H1 locs1 lsA h ⟨g1, ⟨hI.1, hI.2.putR hin9.1⟩, g2, hl, hcl, hcs.2.2.2⟩ h0 hs0
            rw [hnx] at K1
            exact K1
      · cases h
    · cases h
  case monitorexit =>
    simp only [zstp] at h
    simp only [zck] at hck
    split at hck
    · next idx hdg =>
      rw [Bool.and_eq_true] at hck
      have hnx := znx_of hck.1
      split at h
      · next n dp a sp b st' =>
        split at h
        · next cc =>
          obtain ⟨⟨ka, kb⟩, ⟨n0, d0, s00⟩, l1, l2, l3⟩ := cc
          have hg := hkg _ _ _ _ h
          obtain ⟨hata, hin9, ea⟩ := zarr hH hI.2 (a := a) (by omega)
          obtain ⟨hatb, -, eb⟩ := zarr hH hI.2 (a := b) (by omega)
          rw [zent_int (Or.inl ka), ka] at hata
          rw [zent_int (Or.inl kb), kb] at hatb
          have hw := zcw_le st'
          show W p l e R s m args below meth c H locs _ _ Z (F0 m (zpc j pc) lsA (.int (Int32.ofInt n) :: .int (Int32.ofInt dp) :: zv g (zA a) :: .int (Int32.ofInt sp) :: zv g (zA b) :: st'.map (zv g)))
          rw [ea, eb]
          have cn := z_clamp hcs.1
          have cd := z_clamp hcs.2.1
          have cs := z_clamp hcs.2.2.2.1
          have hg1 : σ.1 ≤ σ'.1 := hg.1
          have hg2 : σ.2.1 ≤ σ'.2.1 := hg.2
          refine zcopy hx hb (hml.trans hl.1.symm) hown (hts _ (zwd_in hck.2)) (hts _ zm_acN) (hts _ zm_acS) (hts _ zm_syI) hatb hata (zK_at hK (k := 0) rfl).1 (fun z => absurd ((z_lt0 hcs.2.2.2.1).mp z) (by omega)) (fun z => absurd ((z_lt0 hcs.2.1).mp z) (by omega)) (fun z => absurd ((z_lt0 hcs.1).mp z) (by omega)) (by rw [cn, cs]; omega) (by rw [cn, cd]; omega) (by omega) (by rw [zcw_sum, show nativeFrameWords "java/lang/System" "arraycopy" 5 = 7 from by decide]; omega) hdg fun H1 locs1 hA => ?_
          obtain ⟨g1, g2⟩ := zW1 (σ' := (σ.1, σ.2.1, σ.2.2.1, σ.2.2.2.1, zrow σ.2.2.2.2 a (va_cpy (σ.2.2.2.2 b) (σ.2.2.2.2 a) sp.toNat dp.toNat n.toNat))) hH hS hin9 hA (by
            rw [zent_int (σ := (σ.1, σ.2.1, σ.2.2.1, σ.2.2.2.1, zrow σ.2.2.2.2 a (va_cpy (σ.2.2.2.2 b) (σ.2.2.2.2 a) sp.toNat dp.toNat n.toNat))) (Or.inl ka)]
            rw [cn, cd, cs]
            show _ = Sum.inl (g.2.1 (σ.2.2.1 a).1, _, Sum.inl (fun j => Int32.ofInt (zrow σ.2.2.2.2 a (va_cpy (σ.2.2.2.2 b) (σ.2.2.2.2 a) sp.toNat dp.toNat n.toNat) a j)))
            rw [zrow_at, ka, zcpy_map]) rfl (fun q hq => zent_row hq)
          have K1 := HK (pc + 1) ls st' _ H1 locs1 lsA h ⟨g1, ⟨hI.1, hI.2.row hin9.1 (fun j => zcpy_cn hI.2 ka kb _ _ _ j)⟩, g2, hl, hcl, hcs.2.2.2.2.2⟩ h0 hs0
          rw [hnx] at K1
          exact K1
        · cases h
      · cases h
    · cases hck
  case swap =>
    simp only [zstp] at h
    simp only [zck] at hck
    split at hck
    · next idx hdg =>
      rw [Bool.and_eq_true] at hck
      have hnx := znx_of hck.1
      split at h
      · next a st' =>
        split at h
        · next cc =>
          have hg := hkg _ _ _ _ h
          have hg1 : σ.1 + 1 ≤ σ'.1 := hg.1
          have hg2 : σ.2.1 + (σ.2.2.1 a).2 ≤ σ'.2.1 := hg.2
          obtain ⟨hata, hin9, ea⟩ := zarr hH hI.2 (a := a) (by omega)
          rw [zent_int (Or.inl cc.1), cc.1] at hata
          have hw := zcw_le st'
          obtain ⟨hAr, hRA⟩ := zK_at hK (k := 0) rfl
          show W p l e R s m args below meth c H locs _ _ Z (F0 m (zpc j pc) lsA (zv g (zA a) :: st'.map (zv g)))
          rw [ea]
          refine zclone hx hb (hml.trans hl.1.symm) hown (hts _ (zwd_in hck.2)) (hts _ zm_clS) (hts _ zm_clN) (hts _ zm_clI) (hts _ zm_clV) hRO.2.2.2.2.2.2.2.2.1 hata hAr (va_nm_int hRA) (by omega) (by rw [zcw_sum]; omega) (by omega) (by omega) hdg fun H1 hM => ?_
          obtain ⟨g1, g2, g3⟩ := zM1 (σ' := (σ.1 + 1, σ.2.1 + (σ.2.2.1 a).2, zupS σ.2.2.1 σ.1 (20, (σ.2.2.1 a).2), zrow σ.2.2.2.1 σ.1 (fun _ => 0), zrow σ.2.2.2.2 σ.1 (σ.2.2.2.2 a))) hH hS hM (by
            rw [zent_int (by show (zupS σ.2.2.1 σ.1 (20, (σ.2.2.1 a).2) σ.1).1 = 20 ∨ (zupS σ.2.2.1 σ.1 (20, (σ.2.2.1 a).2) σ.1).1 = 21 ∨ (zupS σ.2.2.1 σ.1 (20, (σ.2.2.1 a).2) σ.1).1 = 23; rw [zupS_at]; simp)]
            simp only [zupS_at, zrow_at]) rfl (fun q hq => zent_new hq)
          have K1 := HK (pc + 1) ls (zA σ.1 :: st') _ H1 locs lsA h ⟨g1, ⟨by show 9 ≤ σ.1 + 1; have := hI.1; omega, hI.2.new hI.1 (Or.inr ⟨by omega, by omega⟩) (hI.2.2.2.2.1 _) (fun j => zcn_32 rfl (zrd32 hI.2 (by omega) _))⟩, g2, hl, hcl, ⟨trivial, hcs.2⟩⟩ (by show c0 ≤ σ.1 + 1; omega) (by show s0 ≤ σ.2.1 + (σ.2.2.1 a).2; omega)
          rw [hnx] at K1
          refine W.cs (cells' := σ.1 + 1 - c0) (slots' := σ.2.1 + (σ.2.2.1 a).2 - s0) (by omega) (by omega) ?_
          rw [← g3]
          exact K1
        · cases h
      · cases h
    · cases hck
  case monitorenter =>
    simp only [zstp] at h
    simp only [zck] at hck
    split at hck
    · next idx hdg =>
      rw [Bool.and_eq_true] at hck
      have hnx := znx_of hck.1
      split at h
      · next a st' =>
        split at h
        · next cc =>
          have K1 := HK (pc + 1) ls st' σ H locs lsA h ⟨hH, hI, hS, hl, hcl, hcs.2⟩ h0 hs0
          rw [hnx] at K1
          obtain ⟨x, e1, -⟩ := zad_some hRO hI.2 cc.1
          have hw := zcw_le st'
          have e0 : zv g (zA a) = .ref x := by show va_rf (zad g a) = _; rw [e1]; rfl
          show W p l e R s m args below meth c H locs _ _ Z (F0 m (zpc j pc) lsA (zv g (zA a) :: st'.map (zv g)))
          rw [e0]
          exact W.objInit hx hb hown (hts _ (zwd_in hck.2)) (hts _ zm_obI) (hts _ zm_obC) rfl (hl.1.trans hml.symm) rfl hdg (by omega) (by show 2 * 0 + _ + 12 ≤ _; rw [zcw_sum]; omega) K1
        · cases h
      · cases h
    · cases hck
  case checkcast q =>
    simp only [zstp] at h
    simp only [zck] at hck
    split at hck
    · next idx hdg =>
      rw [Bool.and_eq_true] at hck
      have hnx := znx_of hck.1
      split at h
      · next a st' =>
        split at h
        · next cc =>
          have K1 := HK (pc + 1) ls (zA a :: st') σ H locs lsA h ⟨hH, hI, hS, hl, hcl, hcs⟩ h0 hs0
          rw [hnx] at K1
          obtain ⟨hata, hin9, ea⟩ := zarr hH hI.2 (a := a) (by omega)
          rw [zent_int (Or.inl cc), cc] at hata
          obtain ⟨hAr, hRA⟩ := zK_at hK (k := 0) rfl
          show W p l e R s m args below meth c H locs _ _ Z (F0 m (zpc j pc) lsA (zv g (zA a) :: st'.map (zv g)))
          rw [ea]
          simp only [List.map_cons, ea] at K1
          exact va_castA hx hb hown (hts _ (zwd_in hck.2)) (zP1 hata) 0 rfl (va_nm_int hRA) hdg K1
        · cases h
      · cases h
    · cases hck
  case invokeinterface i nt =>
    have hpre : ∃ va σ1, cal i (st.take (nt / 4)).reverse σ = some (va, σ1) ∧ (zcw (st.drop (nt / 4)) ≤ 8 ∧ nt / 4 ≤ st.length) ∧ k (pc + 1) ls (zpush va (st.drop (nt / 4))) σ1 = some (v, σ') := by
      simp only [zstp] at h
      split at h
      · next e1 e2 =>
        obtain ⟨x, σ1, e, h⟩ := zbI_some h
        rw [Bool.and_eq_true] at e1
        exact ⟨_, _, e, ⟨Nat.le_of_ble_eq_true e1.1, Nat.le_of_ble_eq_true e1.2⟩, h⟩
      · next e1 e2 =>
        obtain ⟨x, σ1, e, h⟩ := zbL_some h
        rw [Bool.and_eq_true] at e1
        exact ⟨_, _, e, ⟨Nat.le_of_ble_eq_true e1.1, Nat.le_of_ble_eq_true e1.2⟩, h⟩
      · next e1 e2 =>
        obtain ⟨x, σ1, e, h⟩ := zbA_some h
        rw [Bool.and_eq_true] at e1
        exact ⟨_, _, e, ⟨Nat.le_of_ble_eq_true e1.1, Nat.le_of_ble_eq_true e1.2⟩, h⟩
      · next e1 e2 =>
        obtain ⟨x, σ1, e, h⟩ := zbV_some h
        rw [Bool.and_eq_true] at e1
        exact ⟨_, _, e, ⟨Nat.le_of_ble_eq_true e1.1, Nat.le_of_ble_eq_true e1.2⟩, h⟩
      · cases h
    obtain ⟨va, σ1, hcl1, ⟨hw8, hlen⟩, h⟩ := hpre
    have hcas := zcs_rev (zcs_take (nt / 4) hcs)
    have hcd := zcs_drop (nt / 4) hcs
    have hg := hkg _ _ _ _ h
    have hstk : st.map (zv g) = ((st.take (nt / 4)).reverse.map (zv g)).reverse ++ (st.drop (nt / 4)).map (zv g) := by
      rw [← List.map_reverse, List.reverse_reverse, ← List.map_append, List.take_append_drop]
    have hal : (st.take (nt / 4)).reverse.length = nt / 4 := by rw [List.length_reverse, List.length_take]; omega
    simp only [zck] at hck
    have fin : ∀ (hz : znx j pc 3 = true) (hi : zcb i = true), (∀ d', d = d' + 1 → zIv L xs σ1 → zcan va → zrcB (zPP.2.2 i) (st.take (nt / 4)).reverse σ = true → σ.1 ≤ σ1.1 → σ.2.1 ≤ σ1.2.1 → Met l (zy i) (zws i) (zrm d' (σ1.1 - σ.1) (σ1.2.1 - σ.2.1)) (va_Pc ((st.take (nt / 4)).reverse.map (zv g)) (zPre g L xs σ)) (zQ g va σ1) (σ1.1 - σ.1) (σ1.2.1 - σ.2.1) (zAr g) → zmok i = true →
        ∃ a, va_Run p l e R s m args below meth c H locs (σ.1 - c0) (σ.2.1 - s0) (σ1.1 - σ.1) (σ1.2.1 - σ.2.1) (F0 m (zpc j pc) lsA (st.map (zv g))) ((st.drop (nt / 4)).map (zv g)) (zQ g va σ1 a) (zAr g)) →
        W p l e R s m args below meth c H locs (σ.1 - c0) (σ.2.1 - s0) Z (F0 m (zpc j pc) lsA (st.map (zv g))) := by
      intro hz hi run
      simp only [zcb, Bool.and_eq_true, decide_eq_true_eq] at hi
      obtain ⟨⟨d', hd, hM⟩, hIv, hcv, hrc, hg1, hg2⟩ := HC i _ va σ1 hcl1 hi.1 hi.2 hcas
      obtain ⟨a, hr⟩ := run d' hd hIv hcv hrc hg1 hg2 hM (hmo hi.1 hi.2)
      refine zcont hr hS fun H1 locs1 g1 g2 => ?_
      have K1 := HK (pc + 1) ls (zpush va (st.drop (nt / 4))) σ1 H1 locs1 lsA h ⟨g1, hIv, g2, hl, hcl, zpush_cs hcv hcd⟩ (by omega) (by omega)
      rw [znx_of hz, zpush_map] at K1
      exact W.cs (by omega) (by omega) K1
    split at hck
    · next idx hdg =>
      simp only [Bool.and_eq_true, Bool.or_eq_true, decide_eq_true_eq] at hck
      obtain ⟨⟨⟨⟨⟨hz, hi⟩, hk0⟩, hw⟩, hn4⟩, hrk⟩ := hck
      refine fin hz hi fun d' hd hIv hcv hrc hg1 hg2 hM hmk => ?_
      obtain ⟨hws, hcd1⟩ := zws_ok hts hmk
      obtain ⟨m1, m2, m3, m4, m5, m6⟩ := zmok_of hmk
      have hst := hts _ (zmok_st hmk hk0)
      have hPS : PreS s H (va_Pc ((st.take (nt / 4)).reverse.map (zv g)) (zPre g L xs σ)) ((st.take (nt / 4)).reverse.map (zv g)) := ⟨zPre.blind, fun U hU hW => ⟨rfl, zPre.of hH hK hRO hS hU hW⟩⟩
      refine ⟨((st.take (nt / 4)).reverse.map (zv g)).toArray, ?_⟩
      rcases hw with hw | hw
      · exact va_runS ⟨hx, hb, hml, hown, hts⟩ hM ⟨⟨rfl, rfl, by show d' + 1 + 1 ≤ _; omega, by show 8 + (zPP.2.1 i + 11) + 100 * (d' + 1) ≤ _; omega, hws, List.mem_cons_self, hts _ hcd1, hts _ m1, m2, fun sig hs => m3 sig hs, hts _ (zwd_in hw)⟩, hst⟩ hPS rfl (by rw [List.length_map, hal, hn4]) hl.1 hstk (lv_room (by rw [zcw_sum]; exact hw8)) hdg ⟨by omega, by omega⟩
      · obtain ⟨rfl, hnest⟩ := znest_of hw hRO
        exact va_runSN ⟨hx, hb, hml, hown, hts⟩ hM ⟨⟨⟨rfl, rfl, by show d' + 1 + 1 ≤ _; omega, by show 8 + (zPP.2.1 _ + 11) + 100 * (d' + 1) ≤ _; omega, hws, List.mem_cons_self⟩, hts _ hcd1, hts _ m1, m2, fun sig hs => m3 sig hs, va_Nw.use rfl hnest⟩, hst, trivial⟩ hPS rfl (by rw [List.length_map, hal, hn4]) hl.1 hstk (lv_room (by rw [zcw_sum]; exact hw8)) hdg ⟨by omega, by omega⟩
    · next idx hdg =>
      simp only [Bool.and_eq_true, decide_eq_true_eq] at hck
      obtain ⟨⟨⟨⟨⟨hz, hi⟩, hk1⟩, hw⟩, hn4⟩, hrk⟩ := hck
      refine fin hz hi fun d' hd hIv hcv hrc hg1 hg2 hM hmk => ?_
      obtain ⟨hws, hcd1⟩ := zws_ok hts hmk
      obtain ⟨m1, m2, m3, m4, m5, m6⟩ := zmok_of hmk
      obtain ⟨hin1, hse1⟩ := zmok_vt hmk hk1
      obtain ⟨b, as', has, x, e0, cell, hcell⟩ := zrc_of m6 (by omega) hrc hS hRO hH hI.2 hK
      rw [has] at hM hstk hal
      simp only [List.map_cons, e0, List.reverse_cons, List.append_assoc, List.singleton_append] at hM hstk
      refine ⟨(Value.ref x :: as'.map (zv g)).toArray, ?_⟩
      have hsn : as'.length = (zm i).2.2.2.2 := by simp only [List.length_cons] at hal; omega
      exact va_runV (C := zcl i) ⟨hx, hb, hml, hown, hts⟩ hM ⟨⟨rfl, rfl, by show d' + 1 + 1 ≤ _; omega, by show 8 + (zPP.2.1 i + 11) + 100 * (d' + 1) ≤ _; omega, hws, List.mem_cons_self, hts _ hcd1, hts _ m1, m2, fun sig hs => m3 sig hs, hts _ (zwd_in hw)⟩, hts _ hin1, hts _ hse1⟩ ⟨zPre.blind, ⟨cell, hcell⟩, fun U hU hW => ⟨rfl, zPre.of hH hK hRO hS hU hW⟩⟩ rfl (by rw [List.length_map, hsn]) hl.1 hstk (lv_room (by rw [zcw_sum]; exact hw8)) hdg ⟨by omega, by omega⟩
    · next idx hdg =>
      simp only [Bool.and_eq_true, decide_eq_true_eq] at hck
      obtain ⟨⟨⟨⟨⟨hz, hi⟩, hk2⟩, hw⟩, hn4⟩, hrk⟩ := hck
      refine fin hz hi fun d' hd hIv hcv hrc hg1 hg2 hM hmk => ?_
      obtain ⟨hws, hcd1⟩ := zws_ok hts hmk
      obtain ⟨m1, m2, m3, m4, m5, m6⟩ := zmok_of hmk
      obtain ⟨hin1, hnm1, hrt⟩ := zmok_in hmk hk2
      obtain ⟨b, as', has, x, e0, cell, hcell⟩ := zrc_of m6 (by omega) hrc hS hRO hH hI.2 hK
      rw [has] at hM hstk hal
      simp only [List.map_cons, e0, List.reverse_cons, List.append_assoc, List.singleton_append] at hM hstk
      refine ⟨(Value.ref x :: as'.map (zv g)).toArray, ?_⟩
      have hsn : as'.length = (zm i).2.2.2.2 := by simp only [List.length_cons] at hal; omega
      have hcd2 := hcd1
      rw [hrt] at hcd2
      exact va_runI ⟨hx, hb, hml, hown, hts⟩ hM ⟨⟨rfl, rfl, by show d' + 1 + 1 ≤ _; omega, by show 8 + (zPP.2.1 i + 11) + 100 * (d' + 1) ≤ _; omega, hws, by rw [← hrt]; exact List.mem_cons_self, hts _ hcd2, hts _ m1, m2, fun sig hs => m3 sig hs, hts _ (zwd_in hw)⟩, hnm1, hts _ hin1⟩ ⟨zPre.blind, fun U hU hW => ⟨rfl, zPre.of hH hK hRO hS hU hW⟩⟩ rfl (by rw [List.length_map, hsn]) hl.1 hstk (lv_room (by rw [zcw_sum]; exact hw8)) hdg ⟨by omega, by omega⟩
    · cases hck
  case ireturn =>
    simp only [zstp] at h
    simp only [zck, Bool.or_eq_true, Bool.and_eq_true, decide_eq_true_eq] at hck
    obtain ⟨hd, hty⟩ := hck
    obtain ⟨hdg, -⟩ := zdc_of hd
    split at h
    · next x =>
      cases h
      exact HE _ H locs lsA hH hS (Or.inl ⟨x, .int, rfl, hdg, hty, rfl⟩)
    · cases h
  case ret t =>
    simp only [zstp] at h
    simp only [zck, Bool.or_eq_true, Bool.and_eq_true, decide_eq_true_eq] at hck
    obtain ⟨hd, hty⟩ := hck
    obtain ⟨hdg, -⟩ := zdc_of hd
    split at h
    · next x =>
      split at h
      · next cc =>
        cases h
        rcases cc with ⟨ht, hx0⟩ | ⟨ht, hx0⟩ | ⟨ht, hx0⟩
        · exact HE _ H locs lsA hH hS (Or.inl ⟨x, .boolean, rfl, hdg, by rcases hty with ⟨z, w⟩ | ⟨z, w⟩ | ⟨z, w⟩ <;> first | exact w | (exfalso; omega), (zn_bool hx0).1⟩)
        · exact HE _ H locs lsA hH hS (Or.inl ⟨x, .char, rfl, hdg, by rcases hty with ⟨z, w⟩ | ⟨z, w⟩ | ⟨z, w⟩ <;> first | exact w | (exfalso; omega), zn_char hx0⟩)
        · exact HE _ H locs lsA hH hS (Or.inl ⟨x, .byte, rfl, hdg, by rcases hty with ⟨z, w⟩ | ⟨z, w⟩ | ⟨z, w⟩ <;> first | exact w | (exfalso; omega), zn_byte hx0⟩)
      · cases h
    · cases h
  case lreturn =>
    simp only [zstp] at h
    simp only [zck, Bool.or_eq_true, Bool.and_eq_true, decide_eq_true_eq] at hck
    obtain ⟨hd, hty⟩ := hck
    obtain ⟨hdg, -⟩ := zdc_of hd
    split at h
    · next x =>
      cases h
      exact HE _ H locs lsA hH hS (Or.inr (Or.inl ⟨x, rfl, hdg, hty⟩))
    · cases h
  case areturn =>
    simp only [zstp] at h
    simp only [zck, Bool.or_eq_true, Bool.and_eq_true, decide_eq_true_eq] at hck
    obtain ⟨hd, hty⟩ := hck
    obtain ⟨hdg, -⟩ := zdc_of hd
    split at h
    · next x =>
      cases h
      exact HE _ H locs lsA hH hS (Or.inr (Or.inr (Or.inl ⟨x, rfl, hdg, zrk_ref hty⟩)))
    · cases h
  case return_ =>
    simp only [zstp] at h
    simp only [zck, Bool.or_eq_true, Bool.and_eq_true, decide_eq_true_eq] at hck
    obtain ⟨hd, hty⟩ := hck
    obtain ⟨hdg, -⟩ := zdc_of hd
    split at h
    · skip
      cases h
      exact HE _ H locs lsA hH hS (Or.inr (Or.inr (Or.inr ⟨rfl, hdg, hty⟩)))
    · cases h
  all_goals (simp only [zstp] at h; cases h)
