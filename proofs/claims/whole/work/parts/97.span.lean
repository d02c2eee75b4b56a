-- taking a cable out and laying it again; cutting, bridges
theorem Bs_sz {m o : Nat → Nat} {a s : Nat} {h : Hp} {q hp dy : Nat → Nat} (B : Bs h s q hp dy) (bf : Bf m o a hp dy) : s = sz o a := by
  obtain ⟨b1, b2, b3, b4, b5, b6, b7⟩ := B
  have hcn : ∀ v, v < 10 → ((∃ i, i < s ∧ q i = v) ↔ Cn o a v) := fun v hv => (b6 v hv).symm.trans (bf.2.2.1 v hv)
  unfold sz
  apply Nat.le_antisymm
  · have z : ct (fun _ => true) s ≤ ct (nb o a) 10 := ct_inj q (fun i hi _ => ⟨(b3 i hi).2, bo_p ((hcn _ (b3 i hi).2).mp ⟨i, hi, rfl⟩)⟩) (fun i j hi hj _ _ => b5 i j hi hj)
    rw [ct_tt] at z
    exact z
  · have inv : ∀ v, ∃ i, v < 10 → Cn o a v → i < s ∧ q i = v := by
      intro v
      by_cases c : v < 10 ∧ Cn o a v
      · obtain ⟨i, i1, i2⟩ := (hcn v c.1).mpr c.2
        exact ⟨i, fun _ _ => ⟨i1, i2⟩⟩
      · exact ⟨0, fun x y => absurd ⟨x, y⟩ c⟩
    obtain ⟨f, hf⟩ := Classical.axiomOfChoice inv
    have z : ct (nb o a) 10 ≤ ct (fun _ => true) s := ct_inj f (fun v hv h => ⟨(hf v hv (bo_t.mp h)).1, rfl⟩) (fun i j hi hj h1 h2 hij => by
      rw [← (hf i hi (bo_t.mp h1)).2, ← (hf j hj (bo_t.mp h2)).2, hij])
    rw [ct_tt] at z
    exact z
def ctm (m : Nat → Nat) (e : Nat) : Nat → Nat := fun j => if j = 45 + e ∨ j = 45 + (m (45 + e) - 1) ∨ j = 85 + e ∨ j = 85 + (m (45 + e) - 1) then 0 else m j
def lym (m : Nat → Nat) (e f w : Nat) : Nat → Nat := fun j => if j = 45 + e then f + 1 else if j = 45 + f then e + 1 else if j = 85 + e ∨ j = 85 + f then w else m j
/-- cell 69 alone, and there only what counts -/
def F69 (h h' : Hp) : Prop := (∀ q, q ≠ 69 → h' q = h q) ∧ ∀ j, 125 ≤ j → h' 69 j = h 69 j
theorem F69.trans {h1 h2 h3 : Hp} (a : F69 h1 h2) (b : F69 h2 h3) : F69 h1 h3 := ⟨fun q hq => (b.1 q hq).trans (a.1 q hq), fun j hj => (b.2 j hj).trans (a.2 j hj)⟩
theorem F69.up {h : Hp} {j : Nat} {v : Int32} (hj : j < 125) : F69 h (hp_up h 69 j v) := ⟨fun q hq => up_kk _ _ _ _ _ hq, fun i hi => up_j _ _ _ _ _ (by omega)⟩
theorem x_takes {m : Nat → Nat} {e F : Nat} {h : Hp} (g : Gr (og m)) (c : MN h m) (he : e < 40) (h0 : og m e ≠ 0) : Ev (f12_takes F (nI e) h) (fun h' => F69 h h' ∧ MN h' (ctm m e)) := by
  obtain ⟨g1, g2, g3⟩ := g e he h0
  have e45 : (45 : Int32) + nI e = nI (45 + e) := by rw [l32_45, nI_add]
  have e85 : (85 : Int32) + nI e = nI (85 + e) := by rw [l32_85, nI_add]
  have hm : h 69 (45 + e) = nI (og m e) := c _ (by omega)
  have f1 : nI (og m e) - (1 : Int32) = nI (og m e - 1) := by rw [l32_1, ni_sub1 (by omega)]
  have f45 : (45 : Int32) + nI (og m e - 1) = nI (45 + (og m e - 1)) := by rw [l32_45, nI_add]
  have f85 : (85 : Int32) + nI (og m e - 1) = nI (85 + (og m e - 1)) := by rw [l32_85, nI_add]
  unfold f12_takes
  rw [e45, e85, ni_cl (by omega), hm, f1, f45, f85]
  refine Ev.grd (ni_in (by omega) (by omega)) (Ev.grd (ni_in (by omega) (by omega)) (Ev.nm (Ev.grd (ni_in (by omega) (by omega)) (Ev.nm (Ev.grd (ni_in (by omega) (by omega)) (Ev.nm (Ev.grd (ni_in (by omega) (by omega)) (Ev.nm (Ev.some ⟨?_, fun j hj => ?_⟩)))))))))
  · rw [ni_cl (by omega), ni_cl (by omega), ni_cl (by omega)]
    exact (((F69.up (by omega)).trans (F69.up (by omega))).trans (F69.up (by omega))).trans (F69.up (by omega))
  · rw [ni_cl (by omega), ni_cl (by omega), ni_cl (by omega)]
    have em : m (45 + e) = og m e := rfl
    unfold ctm
    rw [em]
    simp only [up_e]
    by_cases z1 : j = 45 + e
    · simp [z1]
      rfl
    · by_cases z2 : j = 45 + (og m e - 1)
      · simp [z2]
        rfl
      · by_cases z3 : j = 85 + e
        · simp [z3]
          rfl
        · by_cases z4 : j = 85 + (og m e - 1)
          · simp [z4]
            rfl
          · simp [z1, z2, z3, z4]
            exact c j hj
theorem x_lays {m : Nat → Nat} {e f w F : Nat} {h : Hp} (c : MN h m) (he : e < 40) (hf : f < 40) (hef : e ≠ f) : Ev (f12_lays F (nI e) (nI f) (nI w) h) (fun h' => F69 h h' ∧ MN h' (lym m e f w)) := by
  have e45 : (45 : Int32) + nI e = nI (45 + e) := by rw [l32_45, nI_add]
  have e85 : (85 : Int32) + nI e = nI (85 + e) := by rw [l32_85, nI_add]
  have f45 : (45 : Int32) + nI f = nI (45 + f) := by rw [l32_45, nI_add]
  have f85 : (85 : Int32) + nI f = nI (85 + f) := by rw [l32_85, nI_add]
  unfold f12_lays
  rw [e45, e85, f45, f85]
  refine Ev.grd (ni_in (by omega) (by omega)) (Ev.nm (Ev.grd (ni_in (by omega) (by omega)) (Ev.nm (Ev.grd (ni_in (by omega) (by omega)) (Ev.nm (Ev.grd (ni_in (by omega) (by omega)) (Ev.nm (Ev.some ⟨?_, fun j hj => ?_⟩))))))))
  · rw [ni_cl (by omega), ni_cl (by omega), ni_cl (by omega), ni_cl (by omega)]
    exact (((F69.up (by omega)).trans (F69.up (by omega))).trans (F69.up (by omega))).trans (F69.up (by omega))
  · rw [ni_cl (by omega), ni_cl (by omega), ni_cl (by omega), ni_cl (by omega), show nI f + (1 : Int32) = nI (f + 1) from nI_1 _, show nI e + (1 : Int32) = nI (e + 1) from nI_1 _]
    unfold lym
    by_cases z4 : j = 85 + f
    · rw [z4, up_s, if_neg (by omega), if_neg (by omega), if_pos (Or.inr rfl)]
    · rw [up_j _ _ _ _ _ z4]
      by_cases z3 : j = 85 + e
      · rw [z3, up_s, if_neg (by omega), if_neg (by omega), if_pos (Or.inl rfl)]
      · rw [up_j _ _ _ _ _ z3]
        by_cases z2 : j = 45 + f
        · rw [z2, up_s, if_neg (by omega), if_pos rfl]
        · rw [up_j _ _ _ _ _ z2]
          by_cases z1 : j = 45 + e
          · rw [z1, up_s, if_pos rfl]
          · rw [up_j _ _ _ _ _ z1, if_neg z1, if_neg z2, if_neg (by omega)]
            exact c j hj
theorem lym_ctm {m : Nat → Nat} (ok : OkG m) {e : Nat} (he : e < 40) (h0 : og m e ≠ 0) : ∀ j, j < 125 → lym (ctm m e) e (og m e - 1) (m (85 + e)) j = m j := by
  intro j hj
  obtain ⟨g1, g2, g3⟩ := ok.2.2.2.1 e he h0
  have l := (ok.2.2.2.2 e he h0).2.2.2.2
  have em : m (45 + e) = og m e := rfl
  have em2 : m (45 + (og m e - 1)) = e + 1 := g2
  unfold lym
  by_cases z1 : j = 45 + e
  · rw [if_pos z1, z1, em]; omega
  · rw [if_neg z1]
    by_cases z2 : j = 45 + (og m e - 1)
    · rw [if_pos z2, z2, em2]
    · rw [if_neg z2]
      by_cases z3 : j = 85 + e ∨ j = 85 + (og m e - 1)
      · rw [if_pos z3]
        rcases z3 with z | z
        · rw [z]
        · rw [z, l]
      · rw [if_neg z3]
        unfold ctm
        rw [em, if_neg (by omega)]
theorem o_cn {o o' : Nat → Nat} (h : ∀ i, i < 40 → o' i = o i) (a b : Nat) : Cn o' a b ↔ Cn o a b := by
  have k : ∀ x y, aj o' x y ↔ aj o x y := fun x y => by
    constructor
    · rintro ⟨e, h1, h2, h3, h4⟩
      rw [h e h1] at h3 h4
      exact ⟨e, h1, h2, h3, h4⟩
    · rintro ⟨e, h1, h2, h3, h4⟩
      rw [← h e h1] at h3 h4
      exact ⟨e, h1, h2, h3, h4⟩
  constructor
  · intro q S hS ha
    exact q S (fun x y z => hS x y ((k x y).mp z)) ha
  · intro q S hS ha
    exact q S (fun x y z => hS x y ((k x y).mpr z)) ha
theorem o_sz {o o' : Nat → Nat} (h : ∀ i, i < 40 → o' i = o i) (a : Nat) : sz o' a = sz o a := ct_congr (fun i _ => by
  unfold nb
  congr 1
  exact propext (o_cn h a i))
theorem o_cb {o o' : Nat → Nat} (h : ∀ i, i < 40 → o' i = o i) (a : Nat) : cb o' a = cb o a := by
  unfold cb
  rw [ct_congr (p := eb o' a) (q := eb o a) (fun i hi => by
    unfold eb
    rw [h i hi]
    congr 1
    exact propext (and_congr Iff.rfl (o_cn h a (i / 4))))]
theorem o_lst {o o' : Nat → Nat} (h : ∀ i, i < 40 → o' i = o i) (a : Nat) : lst o' a = lst o a := fs_congr (fun i _ => by
  unfold nb
  congr 1
  exact propext (o_cn h a i))
theorem og_ctm {m : Nat → Nat} (ok : OkG m) {e : Nat} (he : e < 40) (h0 : og m e ≠ 0) : ∀ i, i < 40 → og (ctm m e) i = cu (og m) (e + 1) i := by
  intro i hi
  have g := ok.2.2.2.1
  have hog := og_le g he
  rw [cu_v g he h0 i hi]
  show ctm m e (45 + i) = _
  have em : m (45 + e) = og m e := rfl
  unfold ctm
  rw [em]
  by_cases z : i = e ∨ i = og m e - 1
  · rw [if_pos z, if_pos (by omega)]
  · rw [if_neg z, if_neg (by omega)]
    rfl
theorem ok_ctm {m : Nat → Nat} (ok : OkG m) {e : Nat} (he : e < 40) (h0 : og m e ≠ 0) : OkG (ctm m e) ∧ (ctm m e) 2 = m 2 ∧ (ctm m e) 1 = m 1 ∧ (∀ v, v < 10 → (ctm m e) (5 + v) = m (5 + v)) ∧ ∀ i, i < 40 → og (ctm m e) i ≠ 0 → og (ctm m e) i = og m i ∧ (ctm m e) (85 + i) = m (85 + i) := by
  have g := ok.2.2.2.1
  have h2 := ok.2.1
  have hog := og_le g he
  have em : m (45 + e) = og m e := rfl
  have small : ∀ j, j < 45 → ctm m e j = m j := fun j hj => by unfold ctm; rw [if_neg (by omega)]
  have oc := og_ctm ok he h0
  have keep : ∀ i, i < 40 → og (ctm m e) i ≠ 0 → i ≠ e ∧ i ≠ og m e - 1 ∧ og (ctm m e) i = og m i := fun i hi q => by
    have a := oc i hi
    rw [cu_v g he h0 i hi] at a
    by_cases z : i = e ∨ i = og m e - 1
    · rw [if_pos z] at a; exact absurd a q
    · rw [if_neg z] at a
      exact ⟨by omega, by omega, a⟩
  have l85 : ∀ i, i < 40 → og (ctm m e) i ≠ 0 → ctm m e (85 + i) = m (85 + i) := fun i hi q => by
    obtain ⟨a, b, c⟩ := keep i hi q
    unfold ctm
    rw [em, if_neg (by omega)]
  have gr : Gr (og (ctm m e)) := fun i hi q => by
    have g' := cu_gr g (e + 1)
    have a := oc i hi
    rw [a] at q ⊢
    obtain ⟨b1, b2, b3⟩ := g' i hi q
    refine ⟨b1, ?_, b3⟩
    rw [oc _ (by omega)]
    exact b2
  refine ⟨⟨by rw [small 1 (by omega)]; exact ok.1, by rw [small 2 (by omega)]; exact h2, fun v hv => ?_, gr, fun i hi q => ?_⟩, small 2 (by omega), small 1 (by omega), fun v hv => small _ (by omega), fun i hi q => ⟨(keep i hi q).2.2, l85 i hi q⟩⟩
  · rw [small 2 (by omega)] at hv
    rw [small (5 + v) (by omega)]
    exact ok.2.2.1 v hv
  · have k := (keep i hi q).2.2
    obtain ⟨r1, r2, r3⟩ := gr i hi q
    have k2 := l85 (og (ctm m e) i - 1) (by omega) (by rw [r2]; omega)
    have p := ok.2.2.2.2 i hi (by rw [← k]; exact q)
    rw [small 2 (by omega), small (5 + i / 4) (by omega), l85 i hi q, k2, k]
    exact p
/-- back as it was -/
theorem F69.back {m : Nat → Nat} {h h' : Hp} (f : F69 h h') (c : MN h m) (c' : MN h' m) : h' = h := by
  funext q
  by_cases z : q = 69
  · rw [z]
    funext j
    by_cases y : j < 125
    · rw [c j y, c' j y]
    · exact f.2 j (by omega)
  · exact f.1 q z
