/-! GAME, tenth: start -/
def BSI (kd : ZK) (m : ZM) (g q0 q1 a0 a1 c k : Int) (mm : ZM) : Prop := (∀ e, (e < g ∨ g + 3 < e) → mm e = m e) ∧ GS kd mm g ∧ (mm g 0 = q0 ∧ mm g 1 = q1 ∧ mm g 2 = a0 ∧ mm g 3 = a1) ∧ (∀ j, 0 ≤ j → j < c → mm (g + 1) j = 1) ∧ (∀ j, 0 ≤ j → j < k → mm (g + 2) j = 0 ∧ mm (g + 3) j = 0)
theorem BSI_c {kd : ZK} {m mm : ZM} {g q0 q1 a0 a1 c k : Int} (h : BSI kd m g q0 q1 a0 a1 c k mm) : BSI kd m g q0 q1 a0 a1 (c + 1) k (zup mm (g + 1) c 1) := by
  refine ⟨fun e he => by rw [zup_off (by omega)]; exact h.1 e he, h.2.1.frame (zup_off (by omega)), by rw [zup_off (by omega)]; exact h.2.2.1, fun j h1 h2 => ?_, fun j h1 h2 => by rw [zup_off (by omega), zup_off (by omega)]; exact h.2.2.2.2 j h1 h2⟩
  rw [zup_at]
  rcases (show j = c ∨ j < c by omega) with q | q
  · rw [q, gup_at]
  · rw [gup_off (by omega)]; exact h.2.2.2.1 j h1 q
theorem BSI_k {kd : ZK} {m mm : ZM} {g q0 q1 a0 a1 c k : Int} (h : BSI kd m g q0 q1 a0 a1 c k mm) : BSI kd m g q0 q1 a0 a1 c (k + 1) (zup (zup mm (g + 2) k 0) (g + 3) k 0) := by
  refine ⟨fun e he => by rw [zup_off (by omega), zup_off (by omega)]; exact h.1 e he, h.2.1.frame (by rw [zup_off (by omega), zup_off (by omega)]), by rw [zup_off (by omega), zup_off (by omega)]; exact h.2.2.1, fun j h1 h2 => by rw [zup_off (by omega), zup_off (by omega)]; exact h.2.2.2.1 j h1 h2, fun j h1 h2 => ?_⟩
  have x2 : (zup (zup mm (g + 2) k 0) (g + 3) k 0) (g + 2) = gup (mm (g + 2)) k 0 := by rw [zup_off (by omega), zup_at]
  have x3 : (zup (zup mm (g + 2) k 0) (g + 3) k 0) (g + 3) = gup (mm (g + 3)) k 0 := by rw [zup_at, zup_off (by omega)]
  rw [x2, x3]
  rcases (show j = k ∨ j < k by omega) with q | q
  · rw [q, gup_at, gup_at]; exact ⟨rfl, rfl⟩
  · rw [gup_off (by omega), gup_off (by omega)]; exact h.2.2.2.2 j h1 q
theorem BSI_fin {kd : ZK} {m mm : ZM} {g q0 q1 a0 a1 : Int} (h0 : 0 ≤ q0 ∧ q0 ≤ 5) (h1 : 0 ≤ q1 ∧ q1 ≤ 5) (h2 : 0 ≤ a0 ∧ a0 ≤ 4) (h3 : 0 ≤ a1 ∧ a1 ≤ 4) (h : BSI kd m g q0 q1 a0 a1 25 400 mm) : CG kd mm g (opStart q0 q1 a0 a1) ∧ ∀ e, (e < g ∨ g + 3 < e) → mm e = m e :=
  ⟨CG_mk h.2.1 h0.2 h1.2 h2.2 h3.2 h.2.2.1 (fun x y x1 x2 y1 y2 => by
    have := zC_in (p := 0) (x := x) (y := y) (by omega) (by omega)
    exact h.2.2.2.1 _ this.1 this.2) (fun x y a b x1 x2 y1 y2 a1 a2 b1 b2 => by
    have := zS_in (p := 0) (x := x) (y := y) (a := a) (b := b) (by omega) (by omega) (by omega) (by omega)
    exact h.2.2.2.2 _ this.1 this.2), h.1⟩
theorem c_Game_start {d : Nat} {kd : ZK} {m : ZM} {g q0 q1 a0 a1 : Int} (hs : GS kd m g) (h0 : 0 ≤ q0 ∧ q0 ≤ 5) (h1 : 0 ≤ q1 ∧ q1 ≤ 5) (h2 : 0 ≤ a0 ∧ a0 ≤ 4) (h3 : 0 ≤ a1 ∧ a1 ≤ 4) : CtV (d + 1) M_Game_start [(2, g), (0, q0), (0, q1), (0, a0), (0, a1)] kd m (fun m1 => CG kd m1 g (opStart q0 q1 a0 a1) ∧ ∀ c, (c < g ∨ g + 3 < c) → m1 c = m c) := by
  have L9 := zfor1 (400) (fun (k : Int) (mm : ZM) => Ev (d + 1) M_Game_start 0 0 48 [(2, g), zJ, zJ, zJ, zJ, (0, k)] [] kd mm (zqV kd (fun m1 => CG kd m1 g (opStart q0 q1 a0 a1) ∧ ∀ c, (c < g ∨ g + 3 < c) → m1 c = m c))) (fun (k : Int) (mm : ZM) => 0 ≤ k ∧ BSI kd m g q0 q1 a0 a1 25 k mm) (by
    intro k mm hb hI0 KL9
    obtain ⟨hk0, hB⟩ := hI0
    have z1 := hB.2.1
    have zp := z1.2.1
    have u1 : ∀ k v, (zup mm (g + 2) k v) g = mm g := fun k v => zup_off (by omega)
    refine U_Game_start_48 ?_
    refine ⟨fun c1 => ?_, fun c1 => ?_⟩
    · skip
      rw [show k = 400 by omega] at hB
      exact BSI_fin h0 h1 h2 h3 hB
    · skip
      refine ⟨z1.1, (z1.inV ⟨by omega, by omega⟩), z1.1, (by rw [zup_off (by have := z1.2.1; omega)]; exact z1.inB ⟨by omega, by omega⟩), ?_⟩
      rw [iw_s (x := k + 1) (by omega) (by omega)]
      simp only [zp.2.1, zp.2.2, u1]
      exact KL9 _ (by omega) ⟨by omega, BSI_k hB⟩)
  have L0 := zfor1 (25) (fun (c : Int) (mm : ZM) => Ev (d + 1) M_Game_start 0 0 24 [(2, g), zJ, zJ, zJ, zJ, (0, c)] [] kd mm (zqV kd (fun m1 => CG kd m1 g (opStart q0 q1 a0 a1) ∧ ∀ c, (c < g ∨ g + 3 < c) → m1 c = m c))) (fun (c : Int) (mm : ZM) => 0 ≤ c ∧ BSI kd m g q0 q1 a0 a1 c 0 mm) (by
    intro c mm hb hI0 KL0
    obtain ⟨hc0, hB⟩ := hI0
    have z1 := hB.2.1
    have zp := z1.2.1
    refine U_Game_start_24 ?_
    refine ⟨fun c1 => ?_, fun c1 => ?_⟩
    · skip
      rw [show c = 25 by omega] at hB
      exact L9 0 mm (by omega) ⟨by omega, hB⟩
    · skip
      refine ⟨z1.1, (z1.inW ⟨by omega, by omega⟩), ?_⟩
      rw [iw_s (x := c + 1) (by omega) (by omega)]
      simp only [zp.1]
      exact KL0 _ (by omega) ⟨by omega, BSI_c hB⟩)
  refine US_Game_start ⟨hs.1, ?_⟩
  refine U_Game_start_5 ⟨hs.1, ?_⟩
  refine U_Game_start_10 ⟨hs.1, ?_⟩
  refine U_Game_start_15 ⟨hs.1, ?_⟩
  refine U_Game_start_21 ?_
  refine L0 0 _ (by omega) ⟨by omega, fun e he => by rw [zup_off (by omega), zup_off (by omega), zup_off (by omega), zup_off (by omega)], (((hs.size (by omega)).size (by omega)).size (by omega)).size (by omega), by simp [zup], fun j j1 j2 => by omega, fun j j1 j2 => by omega⟩
