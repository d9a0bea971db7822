/-! TABLE, ninth: a game twice, a game with itself -/
theorem dm2 {x n : Int} (h : 0 ≤ x) (hx : x < n * n) (hn : 0 < n) : (0 ≤ x / n ∧ x / n < n) ∧ 0 ≤ x % n ∧ x % n < n :=
  ⟨⟨Int.ediv_nonneg h (by omega), Int.ediv_lt_of_lt_mul hn hx⟩, Int.emod_nonneg _ (by omega), Int.emod_lt_of_pos _ hn⟩
noncomputable def cmb (c u v : Int) : Int := if c = 0 then zb (u = 1 ∧ v = 1) else zb (u = 1 ∨ v = 1)
theorem cmb_in (c u v : Int) : 0 ≤ cmb c u v ∧ cmb c u v ≤ 1 := by unfold cmb; split <;> exact zb_01
theorem zand01 {u v : Int} (hu : 0 ≤ u ∧ u ≤ 1) (hv : 0 ≤ v ∧ v ≤ 1) : zand u v = cmb 0 u v ∧ ∀ c, c ≠ 0 → zor u v = cmb c u v := by
  have h1 : u = 0 ∨ u = 1 := by omega
  have h2 : v = 0 ∨ v = 1 := by omega
  unfold cmb
  rw [if_pos rfl]
  rcases h1 with e | e <;> subst e <;> rcases h2 with e | e <;> subst e
  · exact ⟨(zb_f (by decide)).symm, fun c hc => by rw [if_neg hc]; exact (zb_f (by decide)).symm⟩
  · exact ⟨(zb_f (by decide)).symm, fun c hc => by rw [if_neg hc]; exact (zb_t (by decide)).symm⟩
  · exact ⟨(zb_f (by decide)).symm, fun c hc => by rw [if_neg hc]; exact (zb_t (by decide)).symm⟩
  · exact ⟨(zb_t (by decide)).symm, fun c hc => by rw [if_neg hc]; exact (zb_t (by decide)).symm⟩
/-- a game twice: what answers a to questions q bring at place i (groups of nr replies) -/
noncomputable def fTn (G : GR) (c nr q a i : Int) : Int := gW G (q / G 0) (i / nr / G 1) * gW G (q % G 0) (i / nr % G 1) * cmb c (gV G (q / G 0) (i / nr / G 1) (a / G 2) (i % nr / G 3)) (gV G (q % G 0) (i / nr % G 1) (a % G 2) (i % nr % G 3))
theorem fTn_in {G : GR} (ho : GOK G) (c nr q a i : Int) : 0 ≤ fTn G c nr q a i ∧ fTn G c nr q a i ≤ 81 := zmul_in (A := 81) (B := 1) (zmul_in (A := 9) (B := 9) (ho.gW _ _) (ho.gW _ _)) (cmb_in _ _ _)
theorem fTn_at {G : GR} {c nr q a o j : Int} (hj : 0 ≤ j ∧ j < nr) : fTn G c nr q a (o * nr + j) = gW G (q / G 0) (o / G 1) * gW G (q % G 0) (o % G 1) * cmb c (gV G (q / G 0) (o / G 1) (a / G 2) (j / G 3)) (gV G (q % G 0) (o % G 1) (a % G 2) (j % G 3)) := by
  unfold fTn
  rw [lin_d hj.1 hj.2, lin_m hj.1 hj.2]
/-- a line is laid from place b up to t -/
def LB (m mm : ZM) (b t : Int) (F : Int → Int) : Prop := (∀ e, e ≠ 46 → mm e = m e) ∧ (∀ x, x < b → mm 46 x = m 46 x) ∧ ∀ i, 0 ≤ i → b + i < t → mm 46 (b + i) = F i
theorem LB_1 {m mm : ZM} {b t i v : Int} {F : Int → Int} (h : LB m mm b t F) (e : t = b + i) (hi : 0 ≤ i) (hv : v = F i) : LB m (zup mm 46 t v) b (t + 1) F := by
  refine ⟨fun c hc => by rw [zup_off hc]; exact h.1 c hc, fun x hx => by rw [zup_at, gup_off (by omega)]; exact h.2.1 x hx, fun j j0 j1 => ?_⟩
  rw [zup_at]
  rcases (show j = i ∨ j < i by omega) with q | q
  · rw [q, ← e, gup_at]; exact hv
  · rw [gup_off (by omega)]; exact h.2.2 j j0 (by omega)
theorem line_1 {mm m1 : ZM} {na w q a : Int} {f : Int → Int → Int → Int} (ha : 0 ≤ a ∧ a < na) (hw : 0 ≤ w) (h0 : ∀ x, 0 ≤ x → x < (q * na + a) * w → mm 46 x = tF na w f x) (h1 : ∀ x, x < (q * na + a) * w → m1 46 x = mm 46 x) (h2 : ∀ i, 0 ≤ i → i < w → m1 46 ((q * na + a) * w + i) = f q a i) : ∀ x, 0 ≤ x → x < (q * na + (a + 1)) * w → m1 46 x = tF na w f x := by
  intro x x0 x1
  rw [← Int.add_assoc, mulS] at x1
  rcases (show x < (q * na + a) * w ∨ (q * na + a) * w ≤ x by omega) with z | z
  · rw [h1 x z]; exact h0 x x0 z
  · have := h2 (x - (q * na + a) * w) (by omega) (by omega)
    rw [show (q * na + a) * w + (x - (q * na + a) * w) = x by omega] at this
    rw [this, ← tF_at (na := na) (w := w) (f := f) ha ⟨show 0 ≤ x - (q * na + a) * w by omega, by omega⟩, show (q * na + a) * w + (x - (q * na + a) * w) = x by omega]
theorem c_Table_loadTwice {d : Nat} {kd : ZK} {m : ZM} {g : Int} {G : GR} {c : Int} (hT : TB kd m) (hg : CG kd m g G) (ho : GOK G) (ht : 0 < G 0) (h2 : G 0 ≤ 2) (hz : 55 < g) : CtV (d + 4) M_Table_loadTwice [(2, 45), (2, g), (0, c)] kd m (fun m1 => TL kd m1 (G 0 * G 0) (G 2 * G 2) (G 1 * G 1) (G 3 * G 3) (G 1 * G 1 * (G 3 * G 3)) (fTn G c (G 3 * G 3)) ∧ ∀ e, e ≠ 45 → e ≠ 46 → m1 e = m e) := by
  sorry
