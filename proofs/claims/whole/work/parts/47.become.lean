/-! GAME: become, start -/
theorem zcpy_off {m : ZM} {b sp a dp n c : Int} (h : c ≠ a) : (zcpy m b sp a dp n) c = m c := by
  funext j
  unfold zcpy
  rw [if_neg (fun e => h e.1)]
theorem zcpy_at {m : ZM} {b a n j : Int} (h0 : 0 ≤ j) (h1 : j < n) : (zcpy m b 0 a 0 n) a j = m b j := by
  unfold zcpy
  rw [if_pos ⟨rfl, h0, by omega⟩]
  congr 1
  omega
theorem c_Game_become {d : Nat} {kd : ZK} {m : ZM} {g h : Int} {G : GR} (hs : GS kd m g) (hc : CG kd m h G) (ho : GOK G) (hd : g + 3 < h ∨ h + 3 < g) : CtV (d + 1) M_Game_become [(2, g), (2, h)] kd m (fun m' => CG kd m' g G ∧ ∀ c, (c < g ∨ g + 3 < c) → m' c = m c) := by
  have hne : h ≠ g := by omega
  have key : ∀ m4 : ZM, (∀ c, c ≠ g → m4 c = m c) → (∀ j, 4 ≤ j → m4 g j = m g j) → (m4 g 0 = m h 0 ∧ m4 g 1 = m h 1 ∧ m4 g 2 = m h 2 ∧ m4 g 3 = m h 3) → Ev (d + 1) M_Game_become 0 0 32 [(2, g), (2, h)] [] kd m4 (zqV kd (fun m' => CG kd m' g G ∧ ∀ c, (c < g ∨ g + 3 < c) → m' c = m c)) := by
    intro m4 h1 h2 h3
    have p1 : m4 g 4 = g + 1 := by rw [h2 4 (by omega)]; exact hs.2.1.1
    have p2 : m4 g 5 = g + 2 := by rw [h2 5 (by omega)]; exact hs.2.1.2.1
    have p3 : m4 g 6 = g + 3 := by rw [h2 6 (by omega)]; exact hs.2.1.2.2
    have r1 : m4 h 4 = h + 1 := by rw [h1 h hne]; exact hc.1.2.1.1
    have r2 : m4 h 5 = h + 2 := by rw [h1 h hne]; exact hc.1.2.1.2.1
    have r3 : m4 h 6 = h + 3 := by rw [h1 h hne]; exact hc.1.2.1.2.2
    refine U_Game_become_32 ⟨hc.1.1, hs.1, 25, 25, by rw [r1]; exact hc.1.2.2.1, by rw [p1]; exact hs.2.2.1, by decide, by decide, by decide, by decide, by decide, ?_⟩
    rw [p1, r1]
    refine U_Game_become_47 ⟨hc.1.1, hs.1, 400, 400, by rw [zcpy_off (by omega), r2]; exact hc.1.2.2.2.1, by rw [zcpy_off (by omega), p2]; exact hs.2.2.2.1, by decide, by decide, by decide, by decide, by decide, ?_⟩
    rw [zcpy_off (by omega), zcpy_off (by omega), p2, r2]
    refine U_Game_become_63 ⟨hc.1.1, hs.1, 400, 400, by rw [zcpy_off (by omega), zcpy_off (by omega), r3]; exact hc.1.2.2.2.2, by rw [zcpy_off (by omega), zcpy_off (by omega), p3]; exact hs.2.2.2.2, by decide, by decide, by decide, by decide, by decide, ?_⟩
    rw [zcpy_off (by omega), zcpy_off (by omega), zcpy_off (by omega), zcpy_off (by omega), p3, r3]
    have hu := ho.up
    refine ⟨⟨⟨hs.1, ?_, hs.2.2⟩, ?_, fun x y x1 x2 y1 y2 => ?_, fun x y a b x1 x2 y1 y2 a1 a2 b1 b2 => ⟨?_, ?_⟩⟩, fun c hcc => ?_⟩
    · rw [zcpy_off (by omega), zcpy_off (by omega), zcpy_off (by omega)]
      exact ⟨p1, p2, p3⟩
    · rw [zcpy_off (by omega), zcpy_off (by omega), zcpy_off (by omega)]
      have := hc.2.1
      omega
    · rw [zcpy_off (by omega), zcpy_off (by omega), zcpy_at (by omega) (by omega), h1 _ (by omega)]
      exact hc.2.2.1 x y x1 x2 y1 y2
    · rw [zcpy_off (by omega), zcpy_at (by omega) (by omega), zcpy_off (by omega), h1 _ (by omega)]
      exact (hc.2.2.2 x y a b x1 x2 y1 y2 a1 a2 b1 b2).1
    · rw [zcpy_at (by omega) (by omega), zcpy_off (by omega), zcpy_off (by omega), h1 _ (by omega)]
      exact (hc.2.2.2 x y a b x1 x2 y1 y2 a1 a2 b1 b2).2
    · rw [zcpy_off (by omega), zcpy_off (by omega), zcpy_off (by omega), h1 _ (by omega)]
  refine US_Game_become ⟨hc.1.1, hs.1, ?_⟩
  refine U_Game_become_8 ⟨hc.1.1, hs.1, ?_⟩
  refine U_Game_become_16 ⟨hc.1.1, hs.1, ?_⟩
  refine U_Game_become_24 ⟨hc.1.1, hs.1, ?_⟩
  refine key _ (fun c hc => by rw [zup_off hc, zup_off hc, zup_off hc, zup_off hc]) (fun j hj => ?_) ?_
  · have j0 : j ≠ 0 := by omega
    have j1 : j ≠ 1 := by omega
    have j2 : j ≠ 2 := by omega
    have j3 : j ≠ 3 := by omega
    simp [zup, j0, j1, j2, j3]
  · simp [zup, hne]
