/-! TABLE, tenth: a game with itself -/
noncomputable def gZ_ (G : GR) (q o : Int) : Int := gZ G (q / G 0) (o / G 1) * gZ G (q % G 0) (o % G 1)
noncomputable def fI (G : GR) (q a i : Int) : Int := @ite Int ((a = 0 ∨ q = 0) ↔ i % 2 = 0) (Classical.propDecidable _) (gZ_ G q (i / 2)) (-(gZ_ G q (i / 2)))
theorem fI_t {G : GR} {q a i : Int} (h : (a = 0 ∨ q = 0) ↔ i % 2 = 0) : fI G q a i = gZ_ G q (i / 2) := if_pos h
theorem fI_f {G : GR} {q a i : Int} (h : ¬ ((a = 0 ∨ q = 0) ↔ i % 2 = 0)) : fI G q a i = -(gZ_ G q (i / 2)) := if_neg h
theorem gZ__bd {G : GR} (ho : GOK G) (q o : Int) : -81 ≤ gZ_ G q o ∧ gZ_ G q o ≤ 81 := zmul_bd (A := 9) (B := 9) (gZ_in ho _ _) (gZ_in ho _ _)
theorem fI_bd {G : GR} (ho : GOK G) (q a i : Int) : -81 ≤ fI G q a i ∧ fI G q a i ≤ 81 := by
  have := gZ__bd ho q (i / 2)
  rcases Classical.em ((a = 0 ∨ q = 0) ↔ i % 2 = 0) with h | h
  · rw [fI_t h]; exact this
  · rw [fI_f h]; omega
def LI (m mm : ZM) (b w k : Int) (F0 F1 : Int → Int) : Prop := (∀ e, e ≠ 46 → mm e = m e) ∧ (∀ x, x < b → mm 46 x = m 46 x) ∧ ∀ i, 0 ≤ i → i < k → mm 46 (b + i) = F0 i ∧ mm 46 (b + w + i) = F1 i
theorem LI_1 {m mm : ZM} {b w o c0 c1 s0 s1 : Int} {F0 F1 : Int → Int} (h : LI m mm b w (2 * o) F0 F1) (ho : 0 ≤ o) (hw : 2 * o + 2 ≤ w) (e0 : c0 = F0 (2 * o)) (e1 : c1 = F0 (2 * o + 1)) (e2 : s0 = F1 (2 * o)) (e3 : s1 = F1 (2 * o + 1)) : LI m (zup (zup (zup (zup mm 46 (b + 2 * o) c0) 46 (b + 2 * o + 1) c1) 46 (b + w + 2 * o) s0) 46 (b + w + 2 * o + 1) s1) b w (2 * (o + 1)) F0 F1 := by
  refine ⟨fun e he => by rw [zup_off he, zup_off he, zup_off he, zup_off he]; exact h.1 e he, fun x hx => by simp only [zup_at]; rw [gup_off (by omega), gup_off (by omega), gup_off (by omega), gup_off (by omega)]; exact h.2.1 x hx, fun i i0 i1 => ?_⟩
  simp only [zup_at]
  rcases (show i = 2 * o ∨ i = 2 * o + 1 ∨ i < 2 * o by omega) with q | q | q
  · subst q
    rw [gup_off (by omega), gup_off (by omega), gup_off (by omega), gup_at, gup_off (by omega), gup_at]
    exact ⟨e0, e2⟩
  · subst q
    rw [gup_off (by omega), gup_off (by omega), show b + (2 * o + 1) = b + 2 * o + 1 by omega, gup_at, show b + w + (2 * o + 1) = b + w + 2 * o + 1 by omega, gup_at]
    exact ⟨e1, e3⟩
  · rw [gup_off (by omega), gup_off (by omega), gup_off (by omega), gup_off (by omega), gup_off (by omega), gup_off (by omega), gup_off (by omega), gup_off (by omega)]
    exact h.2.2 i i0 q
theorem c_Table_loadWithItself {d : Nat} {kd : ZK} {m : ZM} {g : Int} {G : GR} (hT : TB kd m) (hg : CG kd m g G) (ho : GOK G) (ht : 0 < G 0) (h4 : G 0 ≤ 4) (hz : 55 < g) : CtV (d + 6) M_Table_loadWithItself [(2, 45), (2, g)] kd m (fun m1 => TL kd m1 (G 0 * G 0) 2 (G 1 * G 1) 2 (G 1 * G 1 * 2) (fI G) ∧ ∀ e, e ≠ 45 → e ≠ 46 → m1 e = m e) := by
  sorry
