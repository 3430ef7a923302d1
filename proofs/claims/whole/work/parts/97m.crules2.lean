/-! THE CLASS READS AS THE GRAMMAR SAYS: what goes on, asks, choices -/
section QF
variable {S : Nat → Nat × Nat} {R : Nat → Nat → Nat} {M M' M0 M1 M2 M3 : Nat → Nat → Int} {n s d r : Nat} {B : Nat → Nat} {len N i j c o f p : Nat} {L : List (Nat × Nat)}
theorem yl_4 {l : Nat} (hl : l < 4) : l = 0 ∨ l = 1 ∨ l = 2 ∨ l = 3 := by omega
/-- nothing goes on -/
theorem yh_no (hF : qFx S R) (hk : yTk B len M0 (N + 1)) (hN : N ≤ 300) {l : Nat} (hl : l < 4) (h : yCp M0 M i c) (hi : i ≤ N) (hg : yop l (ysg B len i) = false) (nn : Nat) (g : zV) : yhr (7 + l) (d + 1) o nn g (n, s, S, R, M) = some (zU, (n, s, S, R, M)) := by
  have hh := kx_here (n := n) (s := s) (d := d) hF hk hN h hi
  obtain ⟨h8, h9, h12⟩ := ycp_le h
  generalize ysg B len i = gg at *
  rcases yl_4 hl with rfl | rfl | rfl | rfl
  · have h35 : gg ≠ 35 ∧ gg ≠ 36 := by unfold yop at hg; simp at hg; omega
    show zR zPP (d + 1) 121 5 [zA 295, zI o, zI nn, g] [] (n, s, S, R, M) = _
    rw [e_Reader_readProduct_5]
    by_cases hn : (nn : Int) < 300
    · rw [if_pos hn]
      simp only [qff hF, if_true, h12]
      rw [hh]
      simp only [zbI]
      rw [if_neg (by omega), hh]
      simp only []
      rw [if_neg (by omega)]
    · rw [if_neg hn]
  · have h35 : gg ≠ 33 ∧ gg ≠ 34 := by unfold yop at hg; simp at hg; omega
    show zR zPP (d + 1) 120 5 [zA 295, zI o, zI nn, g] [] (n, s, S, R, M) = _
    rw [e_Reader_readSum_5]
    by_cases hn : (nn : Int) < 300
    · rw [if_pos hn]
      simp only [qff hF, if_true, h12]
      rw [hh]
      simp only [zbI]
      rw [if_neg (by omega), hh]
      simp only []
      rw [if_neg (by omega)]
    · rw [if_neg hn]
  · have h35 : gg ≠ 25 := by unfold yop at hg; simp at hg; omega
    show zR zPP (d + 1) 128 5 [zA 295, zI o, zI nn] [] (n, s, S, R, M) = _
    rw [e_Reader_readBoth_5]
    by_cases hn : (nn : Int) < 300
    · rw [if_pos hn]
      simp only [qff hF, if_true, h12]
      rw [hh]
      simp only [zbI]
      rw [if_neg (by omega)]
    · rw [if_neg hn]
  · have h35 : gg ≠ 24 := by unfold yop at hg; simp at hg; omega
    show zR zPP (d + 1) 127 5 [zA 295, zI o, zI nn] [] (n, s, S, R, M) = _
    rw [e_Reader_readEither_5]
    by_cases hn : (nn : Int) < 300
    · rw [if_pos hn]
      simp only [qff hF, if_true, h12]
      rw [hh]
      simp only [zbI]
      rw [if_neg (by omega)]
    · rw [if_neg hn]
theorem yh_junk (hF : qFx S R) {l : Nat} (hl : l < 4) (h : yJu M0 M f p) (nn : Nat) (g : zV) : yhr (7 + l) d o nn g (n, s, S, R, M) = some (zU, (n, s, S, R, M)) := by
  obtain ⟨h12, hf, -⟩ := h
  rcases yl_4 hl with rfl | rfl | rfl | rfl
  · show zR zPP d 121 5 [zA 295, zI o, zI nn, g] [] (n, s, S, R, M) = _
    rw [e_Reader_readProduct_5]
    by_cases hn : (nn : Int) < 300
    · rw [if_pos hn]
      simp only [qff hF, if_true, h12]
      rw [if_neg (by omega)]
    · rw [if_neg hn]
  · show zR zPP d 120 5 [zA 295, zI o, zI nn, g] [] (n, s, S, R, M) = _
    rw [e_Reader_readSum_5]
    by_cases hn : (nn : Int) < 300
    · rw [if_pos hn]
      simp only [qff hF, if_true, h12]
      rw [if_neg (by omega)]
    · rw [if_neg hn]
  · show zR zPP d 128 5 [zA 295, zI o, zI nn] [] (n, s, S, R, M) = _
    rw [e_Reader_readBoth_5]
    by_cases hn : (nn : Int) < 300
    · rw [if_pos hn]
      simp only [qff hF, if_true, h12]
      rw [if_neg (by omega)]
    · rw [if_neg hn]
  · show zR zPP d 127 5 [zA 295, zI o, zI nn] [] (n, s, S, R, M) = _
    rw [e_Reader_readEither_5]
    by_cases hn : (nn : Int) < 300
    · rw [if_pos hn]
      simp only [qff hF, if_true, h12]
      rw [if_neg (by omega)]
    · rw [if_neg hn]
/-- it goes on -/
theorem yh_go (hF : qFx S R) (hk : yTk B len M0 (N + 1)) (hN : N ≤ 300) {l : Nat} (hl : l < 4) (h : yCp M0 M i c) (hi : i < N) (hg : yop l (ysg B len i) = true) {nn : Nat} (hnn : nn ≤ i) (g : zV) :
    yhr (7 + l) (d + 1) o nn g (n, s, S, R, M) = zbV (zcal zPP (d + 1) (ymt (ybs l)) [zA 295, zI o] (n, s, S, R, zup M 295 8 ((i + 1 : Nat) : Int))) fun q5 => zbI (zcal zPP (d + 1) 123 [zA 295, zI (ysg B len i : Nat), zI 0] q5) fun _ q6 => yhr (7 + l) (d + 1) o (nn + 1) (zI (ysg B len i : Nat)) q6 := by
  have hh := kx_here (n := n) (s := s) (d := d) hF hk hN h (by omega)
  obtain ⟨h8, h9, h12⟩ := ycp_le h
  have hn3 : (nn : Int) < 300 := by omega
  have hni : zw32 ((nn : Int) + 1) = ((nn + 1 : Nat) : Int) := qw1 (by omega)
  have hii : zw32 ((i : Int) + 1) = ((i + 1 : Nat) : Int) := qw1 (by omega)
  generalize ysg B len i = gg at *
  rcases yl_4 hl with rfl | rfl | rfl | rfl
  · have h35 : gg = 35 ∨ gg = 36 := by unfold yop at hg; simp at hg; exact hg
    show zR zPP (d + 1) 121 5 [zA 295, zI o, zI nn, g] [] (n, s, S, R, M) = _
    rw [e_Reader_readProduct_5, if_pos hn3]
    simp only [qff hF, if_true, h12]
    rw [hh]
    simp only [zbI]
    rcases h35 with h | h
    · subst h
      rw [if_pos (show ((35 : Nat) : Int) = 35 from rfl), hh]
      simp only [qff hF, if_true, h8, hii, hni]
      rfl
    · subst h
      rw [if_neg (show ¬ ((36 : Nat) : Int) = 35 by decide), hh]
      simp only []
      rw [if_pos (show ((36 : Nat) : Int) = 36 from rfl), hh]
      simp only [qff hF, if_true, h8, hii, hni]
      rfl
  · have h35 : gg = 33 ∨ gg = 34 := by unfold yop at hg; simp at hg; exact hg
    show zR zPP (d + 1) 120 5 [zA 295, zI o, zI nn, g] [] (n, s, S, R, M) = _
    rw [e_Reader_readSum_5, if_pos hn3]
    simp only [qff hF, if_true, h12]
    rw [hh]
    simp only [zbI]
    rcases h35 with h | h
    · subst h
      rw [if_pos (show ((33 : Nat) : Int) = 33 from rfl), hh]
      simp only [qff hF, if_true, h8, hii, hni]
      rfl
    · subst h
      rw [if_neg (show ¬ ((34 : Nat) : Int) = 33 by decide), hh]
      simp only []
      rw [if_pos (show ((34 : Nat) : Int) = 34 from rfl), hh]
      simp only [qff hF, if_true, h8, hii, hni]
      rfl
  · have h35 : gg = 25 := by unfold yop at hg; simp at hg; exact hg
    show zR zPP (d + 1) 128 5 [zA 295, zI o, zI nn] [] (n, s, S, R, M) = _
    rw [e_Reader_readBoth_5, if_pos hn3]
    simp only [qff hF, if_true, h12]
    rw [hh]
    simp only [zbI]
    subst h35
    rw [if_pos (show ((25 : Nat) : Int) = 25 from rfl)]
    simp only [qff hF, if_true, h8, hii, hni]
    rfl
  · have h35 : gg = 24 := by unfold yop at hg; simp at hg; exact hg
    show zR zPP (d + 1) 127 5 [zA 295, zI o, zI nn] [] (n, s, S, R, M) = _
    rw [e_Reader_readEither_5, if_pos hn3]
    simp only [qff hF, if_true, h12]
    rw [hh]
    simp only [zbI]
    subst h35
    rw [if_pos (show ((24 : Nat) : Int) = 24 from rfl)]
    simp only [qff hF, if_true, h8, hii, hni]
    rfl
/-- one, then what goes on -/
theorem yh_top (hF : qFx S R) {l : Nat} (hl : l < 4) (o : Nat) (M : Nat → Nat → Int) : zcal zPP (d + 1) (ymt (3 + l)) [zA 295, zI o] (n, s, S, R, M) = zbV (zcal zPP d (ymt (ybs l)) [zA 295, zI o] (n, s, S, R, M)) fun q => yhr (7 + l) d o 0 zU q := by
  rcases yl_4 hl with rfl | rfl | rfl | rfl
  · show zcal zPP (d + 1) 121 [zA 295, zI o] (n, s, S, R, M) = _
    rw [c_Reader_readProduct]
    simp only [qff hF, if_true]
    rfl
  · show zcal zPP (d + 1) 120 [zA 295, zI o] (n, s, S, R, M) = _
    rw [c_Reader_readSum]
    simp only [qff hF, if_true]
    rfl
  · show zcal zPP (d + 1) 128 [zA 295, zI o] (n, s, S, R, M) = _
    rw [c_Reader_readBoth]
    simp only [qff hF, if_true]
    rfl
  · show zcal zPP (d + 1) 127 [zA 295, zI o] (n, s, S, R, M) = _
    rw [c_Reader_readEither]
    simp only [qff hF, if_true]
    rfl
theorem yl_d {l : Nat} (hl : l < 4) (o : Nat) : ynd (7 + l) o = ynd (ybs l) o + 1 ∧ ynd (3 + l) o = ynd (ybs l) o + 1 ∧ 5 ≤ ynd (7 + l) o := by
  rcases yl_4 hl with rfl | rfl | rfl | rfl
  · refine ⟨rfl, rfl, ?_⟩
    show 5 ≤ 8 * (8 - o) + 5
    omega
  · refine ⟨rfl, rfl, ?_⟩
    show 5 ≤ 8 * (8 - o) + 6
    omega
  · refine ⟨rfl, rfl, ?_⟩
    show 5 ≤ 8 * (8 - o) + 8
    omega
  · refine ⟨rfl, rfl, ?_⟩
    show 5 ≤ 8 * (8 - o) + 9
    omega
theorem yop_s {l g : Nat} (hl : l < 4) (h : yop l g = true) : g < 100 := by
  have := yop_g hl h
  omega
theorem ycr0 (hF : qFx S R) (hk : yTk B len M0 (N + 1)) (hN : N ≤ 300) {l : Nat} (hl : l < 4) (hi : i ≤ N) (hg : yop l (ysg B len i) = false) : yQC n s S R B len M0 (7 + l) o i (yok i (fun _ => []) [] (fun _ x => x)) := by
  unfold yQC
  rw [if_pos (by omega)]
  intro x M c nn g hx hC hci hnn
  have hd := yl_d hl o
  obtain ⟨y, rfl⟩ : ∃ y, x = y + 1 := ⟨x - 1, by omega⟩
  exact ⟨M, yh_no hF hk hN hl hC hi hg nn g, yOk_0 hC⟩
theorem ycr1 (hF : qFx S R) (hk : yTk B len M0 (N + 1)) (hN : N ≤ 300) {l : Nat} {out : yO} (hl : l < 4) (hi : i < N) (hg : yop l (ysg B len i) = true) (hQ : yQC n s S R B len M0 (ybs l) o (i + 1) out) :
    (∀ f k, out = yft f k → yQC n s S R B len M0 (7 + l) o i (yft f k)) ∧
    ∀ j Lc Lm D, out = yok j Lc Lm D → j ≤ N → i + 1 < j → (∀ c, (Lc c).length ≤ j - (i + 1)) → ∀ out2, yQC n s S R B len M0 (7 + l) o j out2 →
      (∀ f k, out2 = yft f k → yQC n s S R B len M0 (7 + l) o i (yft f k)) ∧ ∀ k Lc2 Lm2 D2 Lm3 D3, out2 = yok k Lc2 Lm2 D2 → yQC n s S R B len M0 (7 + l) o i (yok k (fun c => Lc c ++ (ysg B len i, 0) :: Lc2 (c + (Lc c).length + 1)) Lm3 D3) := by
  have hf := yl_f hl
  have hd := yl_d hl o
  have h100 := yop_s hl hg
  unfold yQC at hQ
  rw [if_neg (by omega)] at hQ
  have key : ∀ y M c, ynd (7 + l) o ≤ y + 1 + 1 → yCp M0 M i c → c ≤ i → yQc n s S R B len M0 (zup M 295 8 ((i + 1 : Nat) : Int)) c (zcal zPP (y + 1) (ymt (ybs l)) [zA 295, zI o] (n, s, S, R, zup M 295 8 ((i + 1 : Nat) : Int))) out := fun y M c hx hC hci => hQ (y + 1) _ c (by omega) (yCp_at hC) (by omega)
  refine ⟨fun f k hout => ?_, fun j Lc Lm D hout hj hij hL out2 hQ2 => ?_⟩
  · subst hout
    unfold yQC
    rw [if_pos (by omega)]
    intro x M c nn g hx hC hci hnn
    obtain ⟨y, rfl⟩ : ∃ y, x = y + 1 := ⟨x - 1, by omega⟩
    obtain ⟨M1, e1, e2⟩ := key y M c hx hC hci
    obtain ⟨v, M2, o1, o2, -⟩ := kx_orderJ (n := n) (s := s) (d := y) hF e2 (ysg B len i : Nat) 0
    refine ⟨M2, ?_, o2⟩
    rw [yh_go hF hk hN hl hC hi hg hnn, e1]
    simp only [zbV]
    rw [o1]
    simp only [zbI]
    exact yh_junk hF hl o2 _ _
  · subst hout
    unfold yQC at hQ2
    rw [if_pos (by omega)] at hQ2
    have key2 : ∀ y M c nn g, ynd (7 + l) o ≤ y + 1 + 1 → yCp M0 M i c → c ≤ i → nn ≤ i → ∃ M2, yhr (7 + l) (y + 1) o nn g (n, s, S, R, M) = yhr (7 + l) (y + 1) o (nn + 1) (zI (ysg B len i : Nat)) (n, s, S, R, M2) ∧ yOk M0 M c (Lc c ++ [(ysg B len i, 0)]) j M2 := fun y M c nn g hx hC hci hnn => by
      obtain ⟨M1, e1, e2⟩ := key y M c hx hC hci
      have hLc := hL c
      have o1 := kx_order (n := n) (s := s) (d := y) (S := S) (R := R) (M := M1) hF e2.1.2.1 (by omega) (g := ysg B len i) (w := 0) h100 (by decide)
      have o1 : zcal zPP (y + 1) 123 [zA 295, zI (ysg B len i : Nat), zI 0] (n, s, S, R, M1) = _ := o1
      refine ⟨_, ?_, yOk_row (yOk_order e2) (by rw [zup_rw (by decide)])⟩
      rw [yh_go hF hk hN hl hC hi hg hnn, e1]
      simp only [zbV]
      rw [o1]
      rfl
    have hlen : ∀ c, c ≤ i → c + (Lc c ++ [(ysg B len i, 0)]).length ≤ j := fun c hc => by
      have := hL c
      rw [List.length_append]
      show c + ((Lc c).length + 1) ≤ j
      omega
    refine ⟨fun f k hout => ?_, fun k Lc2 Lm2 D2 Lm3 D3 hout => ?_⟩
    · subst hout
      unfold yQC
      rw [if_pos (by omega)]
      intro x M c nn g hx hC hci hnn
      obtain ⟨y, rfl⟩ : ∃ y, x = y + 1 := ⟨x - 1, by omega⟩
      obtain ⟨M2, e1, e2⟩ := key2 y M c nn g hx hC hci hnn
      obtain ⟨M3, q1, q2⟩ := hQ2 (y + 1) M2 _ (nn + 1) (zI (ysg B len i : Nat)) hx e2.1 (hlen c hci) (by omega)
      exact ⟨M3, e1.trans q1, q2⟩
    · subst hout
      unfold yQC
      rw [if_pos (by omega)]
      intro x M c nn g hx hC hci hnn
      obtain ⟨y, rfl⟩ : ∃ y, x = y + 1 := ⟨x - 1, by omega⟩
      obtain ⟨M2, e1, e2⟩ := key2 y M c nn g hx hC hci hnn
      obtain ⟨M3, q1, q2⟩ := hQ2 (y + 1) M2 _ (nn + 1) (zI (ysg B len i : Nat)) hx e2.1 (hlen c hci) (by omega)
      refine ⟨M3, e1.trans q1, ?_⟩
      have hcat := yOk_cat e2 q2
      have he : c + (Lc c ++ [(ysg B len i, 0)]).length = c + (Lc c).length + 1 := by rw [List.length_append]; rfl
      rw [he] at hcat
      show yOk M0 M c (Lc c ++ (ysg B len i, 0) :: Lc2 (c + (Lc c).length + 1)) k M3
      have hl2 : Lc c ++ [(ysg B len i, 0)] ++ Lc2 (c + (Lc c).length + 1) = Lc c ++ (ysg B len i, 0) :: Lc2 (c + (Lc c).length + 1) := by simp
      rw [← hl2]
      exact hcat
theorem yct (hF : qFx S R) {l : Nat} {out : yO} (hl : l < 4) (hQ : yQC n s S R B len M0 (ybs l) o i out) :
    (∀ f k, out = yft f k → yQC n s S R B len M0 (3 + l) o i (yft f k)) ∧
    ∀ j Lc Lm D, out = yok j Lc Lm D → i ≤ j → (∀ c, (Lc c).length ≤ j - i) → ∀ out2, yQC n s S R B len M0 (7 + l) o j out2 →
      (∀ f k, out2 = yft f k → yQC n s S R B len M0 (3 + l) o i (yft f k)) ∧ ∀ k Lc2 Lm2 D2 Lm3 D3, out2 = yok k Lc2 Lm2 D2 → yQC n s S R B len M0 (3 + l) o i (yok k (fun c => Lc c ++ Lc2 (c + (Lc c).length)) Lm3 D3) := by
  have hf := yl_f hl
  have hd := yl_d hl o
  unfold yQC at hQ
  rw [if_neg (by omega)] at hQ
  refine ⟨fun f k hout => ?_, fun j Lc Lm D hout hij hL out2 hQ2 => ?_⟩
  · subst hout
    unfold yQC
    rw [if_neg (by omega)]
    intro x M c hx hC hci
    obtain ⟨y, rfl⟩ : ∃ y, x = y + 1 := ⟨x - 1, by omega⟩
    obtain ⟨M1, e1, e2⟩ := hQ y M c (by omega) hC hci
    refine ⟨M1, ?_, e2⟩
    rw [yh_top hF hl, e1]
    simp only [zbV]
    exact yh_junk hF hl e2 _ _
  · subst hout
    unfold yQC at hQ2
    rw [if_pos (by omega)] at hQ2
    refine ⟨fun f k hout => ?_, fun k Lc2 Lm2 D2 Lm3 D3 hout => ?_⟩
    · subst hout
      unfold yQC
      rw [if_neg (by omega)]
      intro x M c hx hC hci
      obtain ⟨y, rfl⟩ : ∃ y, x = y + 1 := ⟨x - 1, by omega⟩
      obtain ⟨M1, e1, e2⟩ := hQ y M c (by omega) hC hci
      have hLc := hL c
      obtain ⟨M3, q1, q2⟩ := hQ2 y M1 _ 0 zU (by omega) e2.1 (by omega) (Nat.zero_le _)
      refine ⟨M3, ?_, q2⟩
      rw [yh_top hF hl, e1]
      simp only [zbV]
      exact q1
    · subst hout
      unfold yQC
      rw [if_neg (by omega)]
      intro x M c hx hC hci
      obtain ⟨y, rfl⟩ : ∃ y, x = y + 1 := ⟨x - 1, by omega⟩
      obtain ⟨M1, e1, e2⟩ := hQ y M c (by omega) hC hci
      have hLc := hL c
      obtain ⟨M3, q1, q2⟩ := hQ2 y M1 _ 0 zU (by omega) e2.1 (by omega) (Nat.zero_le _)
      refine ⟨M3, ?_, yOk_cat e2 q2⟩
      rw [yh_top hF hl, e1]
      simp only [zbV]
      exact q1
/-- asks -/
theorem yca1 (hF : qFx S R) (hk : yTk B len M0 (N + 1)) (hN : N ≤ 300) {out : yO} (ho : o < 8) (hi : i < N) (hg : ysg B len i = 26) (hQ : yQC n s S R B len M0 1 (o + 1) (i + 1) out) :
    (∀ f k, out = yft f k → yQC n s S R B len M0 1 o i (yft f k)) ∧
    ∀ j Lc Lm D Lm3 D3, out = yok j Lc Lm D → j ≤ N → i + 1 < j → (∀ c, (Lc c).length ≤ j - (i + 1)) → yQC n s S R B len M0 1 o i (yok j (fun c => Lc c ++ [(26, 0)]) Lm3 D3) := by
  unfold yQC at hQ
  rw [if_neg (by decide)] at hQ
  have hhead : ∀ y M c, yCp M0 M i c → zcal zPP (y + 7) 129 [zA 295, zI o] (n, s, S, R, M) = zbV (zcal zPP (y + 6) 129 [zA 295, zI ((o + 1 : Nat) : Int)] (n, s, S, R, zup M 295 8 ((i + 1 : Nat) : Int))) fun q3 => zbI (zcal zPP (y + 6) 123 [zA 295, zI 26, zI 0] q3) fun _ q4 => some (zU, q4) := fun y M c hC => by
    have hh := kx_here (n := n) (s := s) (d := y + 5) hF hk hN hC (by omega)
    rw [hg] at hh
    obtain ⟨h8, h9, h12⟩ := ycp_le hC
    rw [c_Reader_readAsk]
    simp only [qff hF, if_true, h12]
    rw [hh]
    simp only [zbI, qff hF, if_true, h8, qw1 (k := o) (by omega), qw1 (k := i) (by omega)]
    rw [if_pos (show ((26 : Nat) : Int) = 26 from rfl), if_pos (by omega)]
  refine ⟨fun f k hout => ?_, fun j Lc Lm D Lm3 D3 hout hj hij hL => ?_⟩
  · subst hout
    unfold yQC
    rw [if_neg (by decide)]
    intro x M c hx hC hci
    have hx : 8 * (8 - o) + 7 ≤ x := hx
    obtain ⟨y, rfl⟩ : ∃ y, x = y + 7 := ⟨x - 7, by omega⟩
    obtain ⟨M1, e1, e2⟩ := hQ (y + 6) (zup M 295 8 ((i + 1 : Nat) : Int)) c (by show 8 * (8 - (o + 1)) + 7 ≤ y + 6; omega) (yCp_at hC) (by omega)
    have e1 : zcal zPP (y + 6) 129 [zA 295, zI ((o + 1 : Nat) : Int)] (n, s, S, R, zup M 295 8 ((i + 1 : Nat) : Int)) = _ := e1
    obtain ⟨v, M2, o1, o2, -⟩ := kx_orderJ (n := n) (s := s) (d := y + 5) hF e2 26 0
    refine ⟨M2, ?_, o2⟩
    refine (hhead y M c hC).trans ?_
    rw [e1]
    simp only [zbV]
    rw [o1]
    rfl
  · subst hout
    unfold yQC
    rw [if_neg (by decide)]
    intro x M c hx hC hci
    have hx : 8 * (8 - o) + 7 ≤ x := hx
    obtain ⟨y, rfl⟩ : ∃ y, x = y + 7 := ⟨x - 7, by omega⟩
    obtain ⟨M1, e1, e2⟩ := hQ (y + 6) (zup M 295 8 ((i + 1 : Nat) : Int)) c (by show 8 * (8 - (o + 1)) + 7 ≤ y + 6; omega) (yCp_at hC) (by omega)
    have e1 : zcal zPP (y + 6) 129 [zA 295, zI ((o + 1 : Nat) : Int)] (n, s, S, R, zup M 295 8 ((i + 1 : Nat) : Int)) = _ := e1
    have hLc := hL c
    have o1 := kx_order (n := n) (s := s) (d := y + 5) (S := S) (R := R) (M := M1) hF e2.1.2.1 (by omega) (g := 26) (w := 0) (by decide) (by decide)
    have o1 : zcal zPP (y + 6) 123 [zA 295, zI 26, zI 0] (n, s, S, R, M1) = _ := o1
    refine ⟨_, ?_, yOk_row (yOk_order e2) (by rw [zup_rw (by decide)])⟩
    refine (hhead y M c hC).trans ?_
    rw [e1]
    simp only [zbV]
    rw [o1]
    rfl
theorem yca2 (hF : qFx S R) (hk : yTk B len M0 (N + 1)) (hN : N ≤ 300) (ho : 8 ≤ o) (hi : i < N) (hg : ysg B len i = 26) : yQC n s S R B len M0 1 o i (yft 3 i) := by
  unfold yQC
  rw [if_neg (by decide)]
  intro x M c hx hC hci
  have hx : 8 * (8 - o) + 7 ≤ x := hx
  obtain ⟨y, rfl⟩ : ∃ y, x = y + 7 := ⟨x - 7, by omega⟩
  obtain ⟨M', e1, e2⟩ := kx_fails (n := n) (s := s) (d := y + 5) hF hk hN hC (by omega) (by omega) (f := 3) (by decide)
  have e1 : zcal zPP (y + 6) 119 [zA 295, zI 3] (n, s, S, R, M) = some (zU, (n, s, S, R, M')) := e1
  have hh := kx_here (n := n) (s := s) (d := y + 5) hF hk hN hC (by omega)
  rw [hg] at hh
  obtain ⟨h8, h9, h12⟩ := ycp_le hC
  refine ⟨M', ?_, e2⟩
  show zcal zPP (y + 7) 129 [zA 295, zI o] (n, s, S, R, M) = _
  rw [c_Reader_readAsk]
  simp only [qff hF, if_true, h12]
  rw [hh]
  simp only [zbI]
  rw [if_pos (show ((26 : Nat) : Int) = 26 from rfl), if_neg (by omega), e1]
  rfl
theorem yca3 (hF : qFx S R) (hk : yTk B len M0 (N + 1)) (hN : N ≤ 300) {out : yO} (hi : i ≤ N) (hg : ysg B len i ≠ 26) (hQ : yQC n s S R B len M0 4 o i out) :
    (∀ f k, out = yft f k → yQC n s S R B len M0 1 o i (yft f k)) ∧
    ∀ j Lc Lm D, out = yok j Lc Lm D → j ≤ N → i < j → (∀ c, (Lc c).length ≤ j - i) → (ycm (ysg B len j) = false → yQC n s S R B len M0 1 o i (yft 1 j)) ∧
      (ycm (ysg B len j) = true → j < N → ∀ out2, yQC n s S R B len M0 4 o (j + 1) out2 →
        (∀ f k, out2 = yft f k → yQC n s S R B len M0 1 o i (yft f k)) ∧ ∀ k Lc2 Lm2 D2 Lm3 D3, out2 = yok k Lc2 Lm2 D2 → k ≤ N → j + 1 < k → (∀ c, (Lc2 c).length ≤ k - (j + 1)) → yQC n s S R B len M0 1 o i (yok k (fun c => Lc c ++ (Lc2 (c + (Lc c).length) ++ [(ysg B len j, 0)])) Lm3 D3)) := by
  unfold yQC at hQ
  rw [if_neg (by decide)] at hQ
  have hhead : ∀ y M c, yCp M0 M i c → zcal zPP (y + 7) 129 [zA 295, zI o] (n, s, S, R, M) = zbV (zcal zPP (y + 6) 120 [zA 295, zI o] (n, s, S, R, M)) fun q7 => zbI (zcal zPP (y + 6) 117 [zA 295] q7) fun x9 q8 => zbI (zcal zPP (y + 6) 150 [zI x9] q8) fun x11 q10 => if x11 = 0 then zbV (zcal zPP (y + 6) 119 [zA 295, zI 1] q10) (fun q12 => some (zU, q12)) else if (q10.2.2.1 295).1 = 4 then (if (q10.2.2.1 295).1 = 4 then zbV (zcal zPP (y + 6) 120 [zA 295, zI o] (q10.1, q10.2.1, q10.2.2.1, q10.2.2.2.1, zup q10.2.2.2.2 295 8 (zw32 ((q10.2.2.2.2 295 8) + 1)))) (fun q13 => zbI (zcal zPP (y + 6) 123 [zA 295, zI x9, zI 0] q13) fun _ q14 => some (zU, q14)) else none) else none := fun y M c hC => by
    have hh := kx_here (n := n) (s := s) (d := y + 5) hF hk hN hC hi
    obtain ⟨h8, h9, h12⟩ := ycp_le hC
    rw [c_Reader_readAsk]
    simp only [qff hF, if_true, h12]
    rw [hh]
    simp only [zbI]
    rw [if_neg (by omega)]
  have key : ∀ y M c, 8 * (8 - o) + 7 ≤ y + 7 → yCp M0 M i c → c ≤ i → yQc n s S R B len M0 M c (zcal zPP (y + 6) 120 [zA 295, zI o] (n, s, S, R, M)) out := fun y M c hx hC hci => hQ (y + 6) M c (by show 8 * (8 - o) + 6 ≤ y + 6; omega) hC hci
  refine ⟨fun f k hout => ?_, fun j Lc Lm D hout hj hij hL => ⟨fun hcm => ?_, fun hcm hjN out2 hQ2 => ?_⟩⟩
  · subst hout
    unfold yQC
    rw [if_neg (by decide)]
    intro x M c hx hC hci
    have hx : 8 * (8 - o) + 7 ≤ x := hx
    obtain ⟨y, rfl⟩ : ∃ y, x = y + 7 := ⟨x - 7, by omega⟩
    obtain ⟨M1, e1, e2⟩ := key y M c hx hC hci
    obtain ⟨x9, h9⟩ := kx_hereJ (n := n) (s := s) (d := y + 5) hF M1
    obtain ⟨bb, hb⟩ := kx_comparesJ (d := y + 5) x9 (n, s, S, R, M1)
    have hfl := kx_failsJ (n := n) (s := s) (d := y + 5) hF e2 1
    cases bb with
    | false =>
      refine ⟨M1, ?_, e2⟩
      refine (hhead y M c hC).trans ?_
      rw [e1]
      simp only [zbV]
      rw [h9]
      simp only [zbI]
      rw [hb]
      simp only []
      rw [if_pos (show q01 false = 0 from rfl), hfl]
    | true =>
      have e3 : yJu M0 (zup M1 295 8 (zw32 (M1 295 8 + 1))) f (ypl B len k) := yJu_at e2
      have hs := kx_sumJ (n := n) (s := s) (d := y + 2) hF e3 (o : Int)
      have hs : zcal zPP (y + 6) 120 [zA 295, zI o] (n, s, S, R, zup M1 295 8 (zw32 (M1 295 8 + 1))) = _ := hs
      obtain ⟨v, M2, o1, o2, -⟩ := kx_orderJ (n := n) (s := s) (d := y + 5) hF e3 x9 0
      refine ⟨M2, ?_, o2⟩
      refine (hhead y M c hC).trans ?_
      rw [e1]
      simp only [zbV]
      rw [h9]
      simp only [zbI]
      rw [hb]
      simp only [qff hF, if_true]
      rw [if_neg (show ¬ q01 true = 0 by decide), hs]
      simp only []
      rw [o1]
  · subst hout
    unfold yQC
    rw [if_neg (by decide)]
    intro x M c hx hC hci
    have hx : 8 * (8 - o) + 7 ≤ x := hx
    obtain ⟨y, rfl⟩ : ∃ y, x = y + 7 := ⟨x - 7, by omega⟩
    obtain ⟨M1, e1, e2⟩ := key y M c hx hC hci
    have hLc := hL c
    have h9 := kx_here (n := n) (s := s) (d := y + 5) (S := S) (R := R) (M := M1) hF hk hN e2.1 hj
    have hb := kx_compares (d := y + 5) (g := ysg B len j) (n, s, S, R, M1)
    rw [hcm] at hb
    obtain ⟨M', f1, f2⟩ := kx_fails (n := n) (s := s) (d := y + 5) (S := S) (R := R) (M := M1) hF hk hN e2.1 hj (by omega) (f := 1) (by decide)
    have f1 : zcal zPP (y + 6) 119 [zA 295, zI 1] (n, s, S, R, M1) = some (zU, (n, s, S, R, M')) := f1
    refine ⟨M', ?_, f2⟩
    refine (hhead y M c hC).trans ?_
    rw [e1]
    simp only [zbV]
    rw [h9]
    simp only [zbI]
    rw [hb]
    simp only []
    rw [if_pos (show q01 false = 0 from rfl), f1]
  · subst hout
    unfold yQC at hQ2
    rw [if_neg (by decide)] at hQ2
    have hcg : ysg B len j < 100 := by unfold ycm at hcm; simp at hcm; omega
    have key2 : ∀ y M c, 8 * (8 - o) + 7 ≤ y + 7 → yCp M0 M i c → c ≤ i → ∃ M1, yOk M0 M c (Lc c) j M1 ∧ c + (Lc c).length ≤ j ∧ zcal zPP (y + 7) 129 [zA 295, zI o] (n, s, S, R, M) = zbV (zcal zPP (y + 6) 120 [zA 295, zI o] (n, s, S, R, zup M1 295 8 ((j + 1 : Nat) : Int))) (fun q13 => zbI (zcal zPP (y + 6) 123 [zA 295, zI (ysg B len j : Nat), zI 0] q13) fun _ q14 => some (zU, q14)) := fun y M c hx hC hci => by
      obtain ⟨M1, e1, e2⟩ := key y M c hx hC hci
      have hLc := hL c
      have h9 := kx_here (n := n) (s := s) (d := y + 5) (S := S) (R := R) (M := M1) hF hk hN e2.1 hj
      have hb := kx_compares (d := y + 5) (g := ysg B len j) (n, s, S, R, M1)
      rw [hcm] at hb
      refine ⟨M1, e2, by omega, ?_⟩
      refine (hhead y M c hC).trans ?_
      rw [e1]
      simp only [zbV]
      rw [h9]
      simp only [zbI]
      rw [hb]
      simp only [qff hF, if_true, e2.1.1, qw1 (k := j) (by omega)]
      rw [if_neg (show ¬ q01 true = 0 by decide)]
    refine ⟨fun f k hout => ?_, fun k Lc2 Lm2 D2 Lm3 D3 hout hkN hjk hL2 => ?_⟩
    · subst hout
      unfold yQC
      rw [if_neg (by decide)]
      intro x M c hx hC hci
      have hx : 8 * (8 - o) + 7 ≤ x := hx
      obtain ⟨y, rfl⟩ : ∃ y, x = y + 7 := ⟨x - 7, by omega⟩
      obtain ⟨M1, e2, hcl, hz⟩ := key2 y M c hx hC hci
      obtain ⟨M3, q1, q2⟩ := hQ2 (y + 6) (zup M1 295 8 ((j + 1 : Nat) : Int)) _ (by show 8 * (8 - o) + 6 ≤ y + 6; omega) (yCp_at e2.1) (by omega)
      have q1 : zcal zPP (y + 6) 120 [zA 295, zI o] (n, s, S, R, zup M1 295 8 ((j + 1 : Nat) : Int)) = _ := q1
      obtain ⟨v, M2, o1, o2, -⟩ := kx_orderJ (n := n) (s := s) (d := y + 5) hF q2 (ysg B len j : Nat) 0
      refine ⟨M2, ?_, o2⟩
      refine hz.trans ?_
      rw [q1]
      simp only [zbV]
      rw [o1]
      rfl
    · subst hout
      unfold yQC
      rw [if_neg (by decide)]
      intro x M c hx hC hci
      have hx : 8 * (8 - o) + 7 ≤ x := hx
      obtain ⟨y, rfl⟩ : ∃ y, x = y + 7 := ⟨x - 7, by omega⟩
      obtain ⟨M1, e2, hcl, hz⟩ := key2 y M c hx hC hci
      obtain ⟨M3, q1, q2⟩ := hQ2 (y + 6) (zup M1 295 8 ((j + 1 : Nat) : Int)) _ (by show 8 * (8 - o) + 6 ≤ y + 6; omega) (yCp_at e2.1) (by omega)
      have q1 : zcal zPP (y + 6) 120 [zA 295, zI o] (n, s, S, R, zup M1 295 8 ((j + 1 : Nat) : Int)) = _ := q1
      have hL2' := hL2 (c + (Lc c).length)
      have o1 := kx_order (n := n) (s := s) (d := y + 5) (S := S) (R := R) (M := M3) hF q2.1.2.1 (by omega) (g := ysg B len j) (w := 0) hcg (by decide)
      have o1 : zcal zPP (y + 6) 123 [zA 295, zI (ysg B len j : Nat), zI 0] (n, s, S, R, M3) = _ := o1
      refine ⟨_, ?_, yOk_cat e2 (yOk_row (yOk_order q2) (by rw [zup_rw (by decide)]))⟩
      refine hz.trans ?_
      rw [q1]
      simp only [zbV]
      rw [o1]
      rfl
end QF
