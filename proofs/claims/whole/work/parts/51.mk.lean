/-! GAMES made anew out of their numbers -/
noncomputable def cutW (q0 q1 : Int) (W : Int → Int → Int) (x y : Int) : Int := zite (0 ≤ x ∧ x < q0 ∧ 0 ≤ y ∧ y < q1) (W x y) 0
noncomputable def cutV (q0 q1 a0 a1 : Int) (V : Int → Int → Int → Int → Int) (x y a b : Int) : Int := zite ((0 ≤ x ∧ x < q0 ∧ 0 ≤ y ∧ y < q1) ∧ 0 ≤ a ∧ a < a0 ∧ 0 ≤ b ∧ b < a1) (V x y a b) 0
noncomputable def mkG (q0 q1 a0 a1 : Int) (W : Int → Int → Int) (V B : Int → Int → Int → Int → Int) : GR := fun k =>
  if k = 0 then q0 else if k = 1 then q1 else if k = 2 then a0 else if k = 3 then a1
  else if k < 29 then cutW q0 q1 W ((k - 4) / 5) ((k - 4) % 5)
  else if k < 429 then cutV q0 q1 a0 a1 V ((k - 29) / 80) ((k - 29) / 16 % 5) ((k - 29) / 4 % 4) ((k - 29) % 4)
  else cutV q0 q1 a0 a1 B ((k - 429) / 80) ((k - 429) / 16 % 5) ((k - 429) / 4 % 4) ((k - 429) % 4)
theorem mkG_sz {q0 q1 a0 a1 : Int} {W : Int → Int → Int} {V B : Int → Int → Int → Int → Int} : mkG q0 q1 a0 a1 W V B 0 = q0 ∧ mkG q0 q1 a0 a1 W V B 1 = q1 ∧ mkG q0 q1 a0 a1 W V B 2 = a0 ∧ mkG q0 q1 a0 a1 W V B 3 = a1 := ⟨rfl, rfl, rfl, rfl⟩
theorem mkG_W {q0 q1 a0 a1 : Int} {W : Int → Int → Int} {V B : Int → Int → Int → Int → Int} (h0 : q0 ≤ 5) (h1 : q1 ≤ 5) (x y : Int) : gW (mkG q0 q1 a0 a1 W V B) x y = cutW q0 q1 W x y := by
  by_cases h : 0 ≤ x ∧ x < 5 ∧ 0 ≤ y ∧ y < 5
  · rw [gW_i h, mkG, if_neg (by omega), if_neg (by omega), if_neg (by omega), if_neg (by omega), if_pos (by omega), show (4 + (5 * x + y) - 4) / 5 = x by omega, show (4 + (5 * x + y) - 4) % 5 = y by omega]
  · rw [gW, if_neg h, cutW, zite_f (by omega)]
theorem mkG_V {q0 q1 a0 a1 : Int} {W : Int → Int → Int} {V B : Int → Int → Int → Int → Int} (h0 : q0 ≤ 5) (h1 : q1 ≤ 5) (h2 : a0 ≤ 4) (h3 : a1 ≤ 4) (x y a b : Int) : gV (mkG q0 q1 a0 a1 W V B) x y a b = cutV q0 q1 a0 a1 V x y a b := by
  by_cases h : (0 ≤ x ∧ x < 5 ∧ 0 ≤ y ∧ y < 5) ∧ 0 ≤ a ∧ a < 4 ∧ 0 ≤ b ∧ b < 4
  · rw [gV_i h, mkG, if_neg (by omega), if_neg (by omega), if_neg (by omega), if_neg (by omega), if_neg (by omega), if_pos (by omega), show (29 + (4 * (4 * (5 * x + y) + a) + b) - 29) / 80 = x by omega, show (29 + (4 * (4 * (5 * x + y) + a) + b) - 29) / 16 % 5 = y by omega, show (29 + (4 * (4 * (5 * x + y) + a) + b) - 29) / 4 % 4 = a by omega, show (29 + (4 * (4 * (5 * x + y) + a) + b) - 29) % 4 = b by omega]
  · rw [gV, if_neg h, cutV, zite_f (by omega)]
theorem mkG_B {q0 q1 a0 a1 : Int} {W : Int → Int → Int} {V B : Int → Int → Int → Int → Int} (h0 : q0 ≤ 5) (h1 : q1 ≤ 5) (h2 : a0 ≤ 4) (h3 : a1 ≤ 4) (x y a b : Int) : gB (mkG q0 q1 a0 a1 W V B) x y a b = cutV q0 q1 a0 a1 B x y a b := by
  by_cases h : (0 ≤ x ∧ x < 5 ∧ 0 ≤ y ∧ y < 5) ∧ 0 ≤ a ∧ a < 4 ∧ 0 ≤ b ∧ b < 4
  · rw [gB_i h, mkG, if_neg (by omega), if_neg (by omega), if_neg (by omega), if_neg (by omega), if_neg (by omega), if_neg (by omega), show (429 + (4 * (4 * (5 * x + y) + a) + b) - 429) / 80 = x by omega, show (429 + (4 * (4 * (5 * x + y) + a) + b) - 429) / 16 % 5 = y by omega, show (429 + (4 * (4 * (5 * x + y) + a) + b) - 429) / 4 % 4 = a by omega, show (429 + (4 * (4 * (5 * x + y) + a) + b) - 429) % 4 = b by omega]
  · rw [gB, if_neg h, cutV, zite_f (by omega)]
theorem mkG_ok {q0 q1 a0 a1 : Int} {W : Int → Int → Int} {V B : Int → Int → Int → Int → Int} (h0 : 0 ≤ q0 ∧ q0 ≤ 5) (h1 : 0 ≤ q1 ∧ q1 ≤ 5) (h2 : 0 ≤ a0 ∧ a0 ≤ 4) (h3 : 0 ≤ a1 ∧ a1 ≤ 4) (ht : 0 < q0 → 1 ≤ q1 ∧ 2 ≤ a0 ∧ 2 ≤ a1) (hW : ∀ x y, 0 ≤ W x y ∧ W x y ≤ 9) (hV : ∀ x y a b, 0 ≤ V x y a b ∧ V x y a b ≤ 1) (hB : ∀ x y a b, 0 ≤ B x y a b ∧ B x y a b ≤ 12) : GOK (mkG q0 q1 a0 a1 W V B) := by
  unfold GOK
  simp only [mkG_W h0.2 h1.2, mkG_V h0.2 h1.2 h2.2 h3.2, mkG_B h0.2 h1.2 h2.2 h3.2, mkG_sz]
  refine ⟨⟨h0, h1, h2, h3⟩, ht, ⟨fun x y => ?_, fun x y a b => ?_, fun x y a b => ?_⟩, fun x y h => ?_, fun x y a b h => ⟨?_, ?_⟩⟩
  · unfold cutW
    rcases Classical.em (0 ≤ x ∧ x < q0 ∧ 0 ≤ y ∧ y < q1) with e | e
    · rw [zite_t e]; exact hW x y
    · rw [zite_f e]; decide
  · unfold cutV
    rcases Classical.em ((0 ≤ x ∧ x < q0 ∧ 0 ≤ y ∧ y < q1) ∧ 0 ≤ a ∧ a < a0 ∧ 0 ≤ b ∧ b < a1) with e | e
    · rw [zite_t e]; exact hV x y a b
    · rw [zite_f e]; decide
  · unfold cutV
    rcases Classical.em ((0 ≤ x ∧ x < q0 ∧ 0 ≤ y ∧ y < q1) ∧ 0 ≤ a ∧ a < a0 ∧ 0 ≤ b ∧ b < a1) with e | e
    · rw [zite_t e]; exact hB x y a b
    · rw [zite_f e]; decide
  · exact zite_f (by omega)
  · exact zite_f (by omega)
  · exact zite_f (by omega)
/-- an object that bears a game made anew -/
theorem CG_mk {kd : ZK} {m : ZM} {g q0 q1 a0 a1 : Int} {W : Int → Int → Int} {V B : Int → Int → Int → Int → Int} (hs : GS kd m g) (h0 : q0 ≤ 5) (h1 : q1 ≤ 5) (h2 : a0 ≤ 4) (h3 : a1 ≤ 4) (hz : m g 0 = q0 ∧ m g 1 = q1 ∧ m g 2 = a0 ∧ m g 3 = a1) (hW : ∀ x y, 0 ≤ x → x < q0 → 0 ≤ y → y < q1 → m (g + 1) (zC 0 x y) = W x y) (hV : ∀ x y a b, 0 ≤ x → x < q0 → 0 ≤ y → y < q1 → 0 ≤ a → a < a0 → 0 ≤ b → b < a1 → m (g + 2) (zS 0 x y a b) = V x y a b ∧ m (g + 3) (zS 0 x y a b) = B x y a b) : CG kd m g (mkG q0 q1 a0 a1 W V B) := by
  refine ⟨hs, by simp only [mkG_sz]; exact hz, ?_, ?_⟩
  · simp only [mkG_sz]
    intro x y e1 e2 e3 e4
    rw [mkG_W h0 h1, cutW, zite_t ⟨e1, e2, e3, e4⟩, ← hW x y e1 e2 e3 e4]
    rfl
  · simp only [mkG_sz]
    intro x y a b e1 e2 e3 e4 e5 e6 e7 e8
    rw [mkG_V h0 h1 h2 h3, mkG_B h0 h1 h2 h3, cutV, cutV, zite_t ⟨⟨e1, e2, e3, e4⟩, e5, e6, e7, e8⟩, zite_t ⟨⟨e1, e2, e3, e4⟩, e5, e6, e7, e8⟩]
    exact hV x y a b e1 e2 e3 e4 e5 e6 e7 e8
def zsk (q x : Int) : Int := if x < q then x else x + 1
noncomputable def opDrop (G : GR) (p q : Int) : GR := if p = 0 then mkG (G 0 - 1) (G 1) (G 2) (G 3) (fun x y => gW G (zsk q x) y) (fun x y a b => gV G (zsk q x) y a b) (fun x y a b => gB G (zsk q x) y a b) else mkG (G 0) (G 1 - 1) (G 2) (G 3) (fun x y => gW G x (zsk q y)) (fun x y a b => gV G x (zsk q y) a b) (fun x y a b => gB G x (zsk q y) a b)
def zlk (n q x : Int) : Int := if x = n then q else x
noncomputable def opCopy (G : GR) (p q : Int) : GR := if p = 0 then mkG (G 0 + 1) (G 1) (G 2) (G 3) (fun x y => gW G (zlk (G 0) q x) y) (fun x y a b => gV G (zlk (G 0) q x) y a b) (fun x y a b => gB G (zlk (G 0) q x) y a b) else mkG (G 0) (G 1 + 1) (G 2) (G 3) (fun x y => gW G x (zlk (G 1) q y)) (fun x y a b => gV G x (zlk (G 1) q y) a b) (fun x y a b => gB G x (zlk (G 1) q y) a b)
noncomputable def opSwap (G : GR) : GR := mkG (G 1) (G 0) (G 3) (G 2) (fun x y => gW G y x) (fun x y a b => gV G y x b a) (fun x y a b => gB G y x b a)
noncomputable def opStart (q0 q1 a0 a1 : Int) : GR := mkG q0 q1 a0 a1 (fun _ _ => 1) (fun _ _ _ _ => 0) (fun _ _ _ _ => 0)
theorem opDrop_ok {G : GR} (ho : GOK G) {p q : Int} (hp : p = 0 ∨ p = 1) (h : 2 ≤ nQ G p) : GOK (opDrop G p q) := by
  have h0 := ho.1
  have ht := ho.2.1
  unfold opDrop
  unfold nQ at h
  split
  · rename_i e
    rw [if_pos e] at h
    exact mkG_ok (by omega) (by omega) (by omega) (by omega) (by omega) (fun _ _ => ho.gW _ _) (fun _ _ _ _ => ho.gV _ _ _ _) (fun _ _ _ _ => ho.gB _ _ _ _)
  · rename_i e
    rw [if_neg e] at h
    exact mkG_ok (by omega) (by omega) (by omega) (by omega) (by omega) (fun _ _ => ho.gW _ _) (fun _ _ _ _ => ho.gV _ _ _ _) (fun _ _ _ _ => ho.gB _ _ _ _)
theorem opCopy_ok {G : GR} (ho : GOK G) {p q : Int} (hp : p = 0 ∨ p = 1) (h : nQ G p < 5) (ht0 : 0 < G 0) : GOK (opCopy G p q) := by
  have h0 := ho.1
  have ht := ho.2.1
  unfold opCopy
  unfold nQ at h
  split
  · rename_i e
    rw [if_pos e] at h
    exact mkG_ok (by omega) (by omega) (by omega) (by omega) (by omega) (fun _ _ => ho.gW _ _) (fun _ _ _ _ => ho.gV _ _ _ _) (fun _ _ _ _ => ho.gB _ _ _ _)
  · rename_i e
    rw [if_neg e] at h
    exact mkG_ok (by omega) (by omega) (by omega) (by omega) (by omega) (fun _ _ => ho.gW _ _) (fun _ _ _ _ => ho.gV _ _ _ _) (fun _ _ _ _ => ho.gB _ _ _ _)
theorem opSwap_ok {G : GR} (ho : GOK G) (ht0 : 0 < G 0) : GOK (opSwap G) := by
  have h0 := ho.1
  have ht := ho.2.1
  exact mkG_ok (by omega) (by omega) (by omega) (by omega) (by omega) (fun _ _ => ho.gW _ _) (fun _ _ _ _ => ho.gV _ _ _ _) (fun _ _ _ _ => ho.gB _ _ _ _)
theorem opStart_ok {q0 q1 a0 a1 : Int} (h0 : 1 ≤ q0 ∧ q0 ≤ 5) (h1 : 1 ≤ q1 ∧ q1 ≤ 5) (h2 : 2 ≤ a0 ∧ a0 ≤ 4) (h3 : 2 ≤ a1 ∧ a1 ≤ 4) : GOK (opStart q0 q1 a0 a1) :=
  mkG_ok (by omega) (by omega) (by omega) (by omega) (by omega) (fun _ _ => ⟨by decide, by decide⟩) (fun _ _ _ _ => ⟨by decide, by decide⟩) (fun _ _ _ _ => ⟨by decide, by decide⟩)
theorem zC_inj {p x y u v : Int} (h : zC p x y = zC p u v) (hx : 0 ≤ x ∧ x < 5) (hy : 0 ≤ y ∧ y < 5) (hu : 0 ≤ u ∧ u < 5) (hv : 0 ≤ v ∧ v < 5) : x = u ∧ y = v := by
  unfold zC at h
  split at h <;> omega
theorem zS_inj {p x y a b u v c e : Int} (h : zS p x y a b = zS p u v c e) (hx : 0 ≤ x ∧ x < 5) (hy : 0 ≤ y ∧ y < 5) (ha : 0 ≤ a ∧ a < 4) (hb : 0 ≤ b ∧ b < 4) (hu : 0 ≤ u ∧ u < 5) (hv : 0 ≤ v ∧ v < 5) (hc : 0 ≤ c ∧ c < 4) (he : 0 ≤ e ∧ e < 4) : x = u ∧ y = v ∧ a = c ∧ b = e := by
  rw [zS_v, zS_v] at h
  split at h <;> omega
