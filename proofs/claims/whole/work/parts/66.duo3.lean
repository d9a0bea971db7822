/-! DUO, third: boxes -/
def bxB (G : GR) (r s : Int → Int) (x y : Int) : Int := gB G x y (r x) (s y)
def isGB (G : GR) (r s : Int → Int) (a b t : Int) : Prop := (0 ≤ t ∧ t ≤ 12) ∧ (∀ x y, 0 ≤ x → 0 ≤ y → y < G 1 → (x < a ∨ x = a ∧ y < b) → bxB G r s x y ≤ t) ∧ (t = 0 ∨ ∃ x y, 0 ≤ x ∧ x < G 0 ∧ 0 ≤ y ∧ y < G 1 ∧ bxB G r s x y = t)
theorem isGB_1 {G : GR} {r s : Int → Int} {a b t : Int} (ho : GOK G) (ha : 0 ≤ a ∧ a < G 0) (hb : 0 ≤ b ∧ b < G 1) (h : isGB G r s a b t) : isGB G r s a (b + 1) (zmax t (bxB G r s a b)) := by
  have hB : 0 ≤ bxB G r s a b ∧ bxB G r s a b ≤ 12 := ho.gB _ _ _ _
  have h1 := zmax_l t (bxB G r s a b)
  have h2 := zmax_r t (bxB G r s a b)
  refine ⟨by rcases zmax_c t (bxB G r s a b) with q | q <;> rw [q] <;> first | exact h.1 | exact hB, fun x y x1 y1 y2 z => ?_, ?_⟩
  · rcases Classical.em (x = a ∧ y = b) with q | q
    · rw [q.1, q.2]; exact h2
    · exact Int.le_trans (h.2.1 x y x1 y1 y2 (by omega)) h1
  · rcases zmax_c t (bxB G r s a b) with q | q
    · rw [q]; exact h.2.2
    · rw [q]; exact Or.inr ⟨a, b, ha.1, ha.2, hb.1, hb.2, rfl⟩
theorem c_Duo_greatestBox {d : Nat} {kd : ZK} {m : ZM} {g : Int} {G : GR} (hd : DU kd m) (hg : CG kd m g G) (ho : GOK G) (h1 : isRw G 0 (m 53)) (h2 : isRw G 1 (m 54)) : CtI (d + 3) M_Duo_greatestBox [(2, 52), (2, g)] kd m (fun t m1 => isGB G (m 53) (m 54) (G 0) 0 t ∧ m = m1) := by
  have e0 := hg.2.1
  have h0 := ho.1
  have e53 : m 52 0 = 53 := hd.1.2.1
  have e54 : m 52 1 = 54 := hd.1.2.2.1
  have L0 := zfor1 (G 0) (fun (x : Int) (t : Int) => Ev (d + 3) M_Duo_greatestBox 0 0 4 [(2, 52), (2, g), (0, t), (0, x), zJ] [] kd m (zqI kd (fun t m1 => isGB G (m 53) (m 54) (G 0) 0 t ∧ m = m1))) (fun (x : Int) (t : Int) => 0 ≤ x ∧ isGB G (m 53) (m 54) x 0 t) (by
    intro x t hb hI0 KL0
    obtain ⟨hx0, hT⟩ := hI0
    have L1 := zfor1 (G 1) (fun (y : Int) (t : Int) => Ev (d + 3) M_Duo_greatestBox 0 0 15 [(2, 52), (2, g), (0, t), (0, x), (0, y)] [] kd m (zqI kd (fun t m1 => isGB G (m 53) (m 54) (G 0) 0 t ∧ m = m1))) (fun (y : Int) (t : Int) => 0 ≤ y ∧ x < G 0 ∧ isGB G (m 53) (m 54) x y t) (by
      intro y t hb hI1 KL1
      obtain ⟨hy0, hxl, hT⟩ := hI1
      have r1 := h1 x hx0 hxl
      rw [show nA G 0 = G 2 from rfl] at r1
      refine T_Duo_greatestBox_15 ?_
      simp only [e53, e54]
      refine ⟨hg.1.1, ?_⟩
      refine ⟨fun c1 => ?_, fun c1 => ?_⟩
      · skip
        rw [iw_s (x := x + 1) (by omega) (by omega)]
        exact KL0 t (by omega) ⟨by omega, hT.1, fun u v u1 v1 v2 hh => hT.2.1 u v u1 v1 v2 (by omega), hT.2.2⟩
      · skip
        refine ⟨hg.1.1, hd.1.1, ⟨5, hd.2.1, by omega, by omega⟩, hd.1.1, ⟨5, hd.2.2.1, by omega, by omega⟩, ?_⟩
        refine ⟨_, c_Ap_spotOf (by omega) (by omega) (by omega) (by have r2 := h2 y hy0 (show y < G 1 by omega); rw [show nA G 1 = G 3 from rfl] at r2; omega), ?_⟩
        rintro _ _ ⟨rfl, rfl⟩
        have r2 := h2 y hy0 (show y < G 1 by omega)
        rw [show nA G 1 = G 3 from rfl] at r2
        refine ⟨(hg.1.inB (zS_in (by omega) (by omega) (by omega) (by omega))), ?_⟩
        rw [iw_s (x := y + 1) (by omega) (by omega)]
        rw [hg.B0 ⟨hx0, hxl⟩ ⟨hy0, by omega⟩ ⟨by omega, by omega⟩ ⟨by omega, by omega⟩]
        exact KL1 _ (by omega) ⟨by omega, hxl, isGB_1 ho ⟨hx0, hxl⟩ ⟨hy0, by omega⟩ hT⟩)
    refine T_Duo_greatestBox_4 ?_
    refine ⟨hg.1.1, ?_⟩
    refine ⟨fun c1 => ?_, fun c1 => ?_⟩
    · skip
      exact ⟨by rw [← show x = G 0 by omega]; exact hT, rfl⟩
    · skip
      exact L1 0 t (by omega) ⟨by omega, by omega, hT⟩)
  refine S_Duo_greatestBox ?_
  exact L0 0 0 (by omega) ⟨by omega, ⟨by decide, by decide⟩, fun u v u1 v1 v2 hh => by omega, Or.inl rfl⟩
