-- wins, grant, turn, fair
theorem Tf.bus {m : Nat → Nat} {a r v : Nat} {hp : Nat → Nat} (on : OkN m) (tf : Tf m a r hp) (hv : Cn (og m) r v) : Tf m v r hp := by
  obtain ⟨t1, t2, t3, t4, t5, t6, t7⟩ := tf
  have g := on.1.2.2.2.1
  have v2 := cn_lt on.1 hv t2
  have tr := tr_cn g ((t3.symm g).trans hv) t7
  refine ⟨v2, t2, hv, t4, t5, ?_, tr⟩
  rcases rt_fi on.1 (RT_of on.fs) v2 with ⟨r', hp', a1, a2, a3, a4, a5⟩ | ⟨a1, a2⟩
  · have := (RT_of on.fs).2.1 r r' t2 a1 t4 a3 (hv.trans a2)
    rw [a5, this]
  · exact absurd a1 tr
/-- a part of the asking set, in the bus of r -/
def gS (m : Nat → Nat) (r c : Nat) : Prop := c < 2 ^ m 2 ∧ ∀ v, v < m 2 → inS c v = true → Cn (og m) r v
noncomputable def nS (m : Nat → Nat) (r c : Nat) : Nat := rmS c ((aw m (Pf m (sM m)) c 12 r).1 - 1)
noncomputable def itS (m : Nat → Nat) (r c : Nat) : Nat → Nat
  | 0 => c
  | i + 1 => nS m r (itS m r c i)
noncomputable def smS (m : Nat → Nat) (r c : Nat) : Nat → Nat
  | 0 => 0
  | i + 1 => smS m r c i + 2 * (aw m (Pf m (sM m)) (itS m r c i) 12 r).2
theorem gS_step {m : Nat → Nat} {a r c : Nat} {hp : Nat → Nat} (on : OkN m) (tf : Tf m a r hp) (gs : gS m r c) (h0 : c ≠ 0) : Cn (og m) r (fi (inS c) 10 - 1) ∧ fi (inS c) 10 ≠ 0 ∧ ∃ w, w < 10 ∧ (aw m (Pf m (sM m)) c 12 r).1 = w + 1 ∧ inS c w = true ∧ gS m r (nS m r c) ∧ ct (inS (nS m r c)) 10 + 1 = ct (inS c) 10 ∧ nS m r c = rmS c w := by
  have h2 := on.1.2.1
  have hb : 2 ^ m 2 ≤ 2 ^ 10 := Nat.pow_le_pow_right (by omega) h2
  have T := tf.2.2.2.2.1
  obtain ⟨f1, f2, f3⟩ := fi_inS h2 gs.1 h0
  have c1 := gs.2 _ f2 f3
  have ne := aw_ne (m := m) (c := c) T c1 f3 12 r (Cn.refl _ _) (by have := T.2.2.2.2.1; omega) (T.all c1)
  have bd := (aw_bd (P := Pf m (sM m)) (c := c) on.1 12 r T.2.2.1).1
  have ins := aw_in m (Pf m (sM m)) c 12 r ne
  obtain ⟨w, hw⟩ : ∃ w, (aw m (Pf m (sM m)) c 12 r).1 = w + 1 := ⟨(aw m (Pf m (sM m)) c 12 r).1 - 1, by omega⟩
  have hn : nS m r c = rmS c w := by unfold nS; rw [hw]; rfl
  rw [hw, show w + 1 - 1 = w from rfl] at ins
  have hw10 : w < 10 := by omega
  have hc := gs.1
  refine ⟨c1, f1, w, hw10, hw, ins, ⟨?_, fun v hv q => ?_⟩, ?_, hn⟩
  · rw [hn]
    unfold rmS
    by_cases z : c / 2 ^ w % 2 = 1
    · rw [if_pos z]; exact Nat.lt_of_le_of_lt (Nat.sub_le _ _) hc
    · rw [if_neg z]; exact hc
  · rw [hn, rm_in (by omega) hw10 (by omega)] at q
    have : inS c v = true := by
      cases hq : inS c v with
      | true => rfl
      | false => rw [hq] at q; exact absurd q (by simp)
    exact gs.2 v hv this
  · rw [hn]
    exact pc_rm (by omega) hw10 ins
theorem itS_ok {m : Nat → Nat} {a r c : Nat} {hp : Nat → Nat} (on : OkN m) (tf : Tf m a r hp) (gs : gS m r c) : ∀ i, i ≤ ct (inS c) 10 → gS m r (itS m r c i) ∧ ct (inS (itS m r c i)) 10 + i = ct (inS c) 10 := by
  intro i
  induction i with
  | zero => intro _; exact ⟨gs, rfl⟩
  | succ i ih =>
    intro hi
    obtain ⟨a1, a2⟩ := ih (by omega)
    have ne : itS m r c i ≠ 0 := fun z => by rw [z, pc_0] at a2; omega
    obtain ⟨b1, b2, w, b3, b4, b5, b6, b7, b8⟩ := gS_step on tf a1 ne
    exact ⟨b6, by show ct (inS (nS m r (itS m r c i))) 10 + (i + 1) = _; omega⟩
theorem gS_of {m : Nat → Nat} {r c : Nat} {hp : Nat → Nat} (on : OkN m) (hc : c < 2 ^ m 2) (hs : sV m c = 0) (tf : Tf m (fi (inS c) 10 - 1) r hp) : gS m r c := ⟨hc, fun v hv q => tf.2.2.1.trans ((sV_ok hs).1 v hv q)⟩
theorem y_ask {m : Nat → Nat} {a r c kn F : Nat} {hp : Nat → Nat} {h : Hp} (co : Co h m kn) (tf : Tf m a r hp) (gs : gS m r c) (h0 : c ≠ 0) (hF : 1000 ≤ F) : Ev (f1_ask F kn 48 (nI c) h) (fun h' => Fr 65 67 h h' ∧ h' 65 0 = fr (aw m (Pf m (sM m)) c 12 r).1 ∧ h' 65 1 = nI (2 * (aw m (Pf m (sM m)) c 12 r).2)) := by
  have on := co.2.2.1
  have h2 := on.1.2.1
  have hb : 2 ^ m 2 ≤ 2 ^ 10 := Nat.pow_le_pow_right (by omega) h2
  have l := co.liv tf.2.1
  obtain ⟨b1, b2, w, b3, b4, b5, b6, b7, b8⟩ := gS_step on tf gs h0
  exact Ev.mono (x_ask (Or.inl rfl) on.1 (co.cs l) tf.2.2.2.2.1 tf.2.1 tf.2.2.2.1 l.2.2 (fun v hv => (l.el hv).2.2.2) (by have := gs.1; omega) b1 hF) (fun h' hh => ⟨hh.1, hh.2.1, hh.2.2 (by omega)⟩)
def ScW (h h' : Hp) : Prop := (∀ q, q ≠ 75 → q ≠ 94 → q ≠ 95 → q ≠ 68 → h' q = h q) ∧ ∀ j, j ≠ 41 → j ≠ 42 → h' 68 j = h 68 j
theorem ScW.sc {h h' : Hp} (f : ScW h h') : Sc h h' := ⟨fun k hk => f.1 k (by omega) (by omega) (by omega) (by omega), fun j hj => f.2 j (by omega) (by omega)⟩
theorem y_wins {m : Nat → Nat} {a r c kn F : Nat} {hp : Nat → Nat} {h : Hp} (co : Co h m kn) (mf : MF h m (sM m)) (tf : Tf m a r hp) (gs : gS m r c) (h0 : c ≠ 0) (hF : 1000 ≤ F) : Ev (f12_winsOf F (nI c) h) (fun h' => Sc h h' ∧ MF h' m (sM m) ∧ h' 68 41 = fr (aw m (Pf m (sM m)) c 12 r).1 ∧ h' 68 42 = nI (2 * (aw m (Pf m (sM m)) c 12 r).2)) := by
  have on := co.2.2.1
  have h2 := on.1.2.1
  have hb : 2 ^ m 2 ≤ 2 ^ 10 := Nat.pow_le_pow_right (by omega) h2
  obtain ⟨b1, b2, w, b3, b4, b5, b6, b7, b8⟩ := gS_step on tf gs h0
  have tf' := tf.bus on b1
  refine Ev.mono (x_winsOf on.1 co.2.2.2.1 tf.2.2.2.2.1 tf.2.1 (fun v hv => (mf v hv).2.1) on.rb (fun v hv => (mf v hv).2.2.2) (by have := gs.1; omega) b2 b1 tf'.2.2.2.2.2.1 hF) (fun h' hh => ⟨(show ScW h h' from ⟨hh.1, hh.2.1⟩).sc, mf.eqv (fun k k1 k2 => hh.1 k (by omega) (by omega) (by omega) (by omega)), hh.2.2.2.1, hh.2.2.2.2⟩)
/-- the cases of a set -/
theorem gd_set {F : Nat} {x : Int32} {a b : Hp → Option (Int32 × Hp)} (hF : 1000 ≤ F) (z : x = 0 → Gd a b)
    (bad : ∀ m kn, OkN m → x ≠ 0 → (∀ V : Int32, (V = -2 ∨ V = -3) → (∀ h, Co h m kn → f11_setRefusal F x h = some (V, h)) → (∀ h, Co h m kn → Ev (f12_whyNotSet F x h) (fun o => o.1 = V ∧ Sc h o.2)) → ∃ V : Int32, (∀ h, Co h m kn → Ev (a h) (fun o => o.1 = V ∧ Sc h o.2)) ∧ ∀ h, Co h m kn → Ev (b h) (fun o => o.1 = V ∧ Sc h o.2)))
    (good : ∀ m kn c r hp, OkN m → x = nI c → c ≠ 0 → Tf m (fi (inS c) 10 - 1) r hp → gS m r c → (∀ h, Co h m kn → f11_setRefusal F x h = some (0, h)) → (∀ h, Co h m kn → Ev (f12_whyNotSet F x h) (fun o => o.1 = 0 ∧ Sc h o.2 ∧ MF o.2 m (sM m) ∧ o.2 68 41 = fr (aw m (Pf m (sM m)) c 12 r).1 ∧ o.2 68 42 = nI (2 * (aw m (Pf m (sM m)) c 12 r).2))) → ∃ V : Int32, (∀ h, Co h m kn → Ev (a h) (fun o => o.1 = V ∧ Sc h o.2)) ∧ ∀ h, Co h m kn → Ev (b h) (fun o => o.1 = V ∧ Sc h o.2)) : Gd a b := by
  intro m kn
  by_cases on : OkN m
  rotate_left
  · exact ⟨0, fun h c => absurd c.2.2.1 on, fun h c => absurd c.2.2.1 on⟩
  by_cases x0 : x = 0
  · exact z x0 m kn
  by_cases ex : ∃ c, c < 2 ^ m 2 ∧ x = nI c
  · obtain ⟨c, hc, rfl⟩ := ex
    have c0 : c ≠ 0 := fun q => x0 (by rw [q]; rfl)
    by_cases s0 : sV m c = 0
    · obtain ⟨f1, f2, f3⟩ := fi_inS on.1.2.1 hc c0
      obtain ⟨r, hp, tf⟩ := Tf_of on f2 (sV_ok s0).2
      refine good m kn c r hp on rfl c0 tf (gS_of on hc s0 tf) (fun h co => by rw [x_setRefusal co hc c0 hF, s0]) (fun h co => Ev.mono (x_whyNotSet co hc c0 hF) (fun o ho => ?_))
      obtain ⟨o1, o2, o3⟩ := ho
      obtain ⟨mf, r', hp', tf', q1, q2⟩ := o3 s0
      have er : r' = r := by
        have a1 := tf.2.2.2.2.2.1
        have a2 := tf'.2.2.2.2.2.1
        omega
      rw [er] at q1 q2
      exact ⟨by rw [o1, s0], o2, mf, q1, q2⟩
    · have sv : sV m c = -2 ∨ sV m c = -3 := by
        unfold sV at s0 ⊢
        by_cases z1 : fi (fun v => inS c v && !(bo (Cn (og m) (fi (inS c) 10 - 1) v))) (m 2) ≠ 0
        · rw [if_pos z1]; exact Or.inl rfl
        · rw [if_neg z1] at s0 ⊢
          by_cases z2 : sz (og m) (fi (inS c) 10 - 1) ≤ cb (og m) (fi (inS c) 10 - 1)
          · rw [if_pos z2]; exact Or.inr rfl
          · rw [if_neg z2] at s0; exact absurd rfl s0
      exact bad m kn on x0 _ sv (fun h co => x_setRefusal co hc c0 hF) (fun h co => Ev.mono (x_whyNotSet co hc c0 hF) (fun o ho => ⟨ho.1, ho.2.1⟩))
  · have hx : ∀ c, c < 2 ^ m 2 → x ≠ nI c := fun c hc q => ex ⟨c, hc, q⟩
    exact bad m kn on x0 (-2) (Or.inl rfl) (fun h co => x_setRefusal0 co hx) (fun h co => Ev.of (x_whyNotSet0 co hx) ⟨rfl, Sc.refl _⟩)
theorem set_0 {F : Nat} {h : Hp} : f11_setRefusal F 0 h = some (-1, h) ∧ f12_whyNotSet F 0 h = some (-1, h) := ⟨rfl, rfl⟩
theorem cn1 : ¬ (-1 : Int32) = 0 := by decide
theorem cn1' : ¬ (0 : Int32) ≤ -1 := by decide
theorem cV {V : Int32} (h : V = -2 ∨ V = -3) : ¬ V = 0 ∧ ¬ (0 : Int32) ≤ V ∧ ¬ V = -1 := by rcases h with rfl | rfl <;> decide
theorem q_wins {F : Nat} (hF : 1000 ≤ F) (x : Int32) : Gd (f11_wins F x) (f12_wins F x) := by
  refine gd_set (x := x) hF (fun x0 m kn => ?_) (fun m kn on x0 V hV ra rb => ?_) (fun m kn c r hp on ex c0 tf gs ra rb => ?_)
  · subst x0
    refine ⟨-1, fun h co => ?_, fun h co => ?_⟩
    · unfold f11_wins
      rw [set_0.1]
      exact ev_bs (Ev.neg cn1 (Ev.some ⟨rfl, Sc.refl _⟩))
    · unfold f12_wins
      rw [set_0.2]
      exact ev_bs (Ev.neg cn1' (Ev.some ⟨rfl, Sc.refl _⟩))
  · refine ⟨V, fun h co => ?_, fun h co => ?_⟩
    · unfold f11_wins
      rw [ra h co]
      exact ev_bs (Ev.neg (cV hV).1 (Ev.some ⟨rfl, Sc.refl _⟩))
    · unfold f12_wins
      exact Ev.bind (rb h co) (fun o ho => Ev.neg (by rw [ho.1]; exact (cV hV).2.1) (Ev.some ⟨ho.1, ho.2⟩))
  · subst ex
    refine ⟨fr (aw m (Pf m (sM m)) c 12 r).1, fun h co => ?_, fun h co => ?_⟩
    · have b := net_le co.2.1
      unfold f11_wins
      rw [ra h co]
      refine ev_bs (Ev.pos rfl (Ev.nm ?_))
      dsimp only
      rw [co.1, ni_cl (by omega)]
      exact Ev.grd co.2.1 (Ev.bind (y_ask co tf gs c0 hF) (fun h1 hh => Ev.some ⟨hh.2.1, hh.1.sc (by omega)⟩))
    · unfold f12_wins
      exact Ev.bind (rb h co) (fun o ho => Ev.pos (by rw [ho.1]; decide) (Ev.some ⟨ho.2.2.2.1, ho.2.1⟩))
theorem q_grant {F : Nat} (hF : 1000 ≤ F) (x : Int32) : Gd (f11_grant F x) (f12_grant F x) := by
  refine gd_set (x := x) hF (fun x0 m kn => ?_) (fun m kn on x0 V hV ra rb => ?_) (fun m kn c r hp on ex c0 tf gs ra rb => ?_)
  · subst x0
    refine ⟨-1, fun h co => ?_, fun h co => ?_⟩
    · unfold f11_grant
      rw [set_0.1]
      exact ev_bs (Ev.neg cn1 (Ev.some ⟨rfl, Sc.refl _⟩))
    · unfold f12_grant
      rw [set_0.2]
      exact ev_bs (Ev.neg cn1' (Ev.some ⟨rfl, Sc.refl _⟩))
  · refine ⟨V, fun h co => ?_, fun h co => ?_⟩
    · unfold f11_grant
      rw [ra h co]
      exact ev_bs (Ev.neg (cV hV).1 (Ev.some ⟨rfl, Sc.refl _⟩))
    · unfold f12_grant
      exact Ev.bind (rb h co) (fun o ho => Ev.neg (by rw [ho.1]; exact (cV hV).2.1) (Ev.some ⟨ho.1, ho.2⟩))
  · subst ex
    refine ⟨nI (2 * (aw m (Pf m (sM m)) c 12 r).2), fun h co => ?_, fun h co => ?_⟩
    · have b := net_le co.2.1
      unfold f11_grant
      rw [ra h co]
      refine ev_bs (Ev.pos rfl (Ev.nm ?_))
      dsimp only
      rw [co.1, ni_cl (by omega)]
      exact Ev.grd co.2.1 (Ev.bind (y_ask co tf gs c0 hF) (fun h1 hh => Ev.some ⟨hh.2.2, hh.1.sc (by omega)⟩))
    · unfold f12_grant
      exact Ev.bind (rb h co) (fun o ho => Ev.pos (by rw [ho.1]; decide) (Ev.some ⟨ho.2.2.2.2, ho.2.1⟩))
theorem q_fair {F : Nat} (hF : 1000 ≤ F) (x : Int32) : Gd (f11_fair F x) (f12_fair F x) := by
  refine gd_set (x := x) hF (fun x0 m kn => ?_) (fun m kn on x0 V hV ra rb => ?_) (fun m kn c r hp on ex c0 tf gs ra rb => ?_)
  · subst x0
    refine ⟨0, fun h co => ?_, fun h co => ?_⟩
    · unfold f11_fair
      exact Ev.pos rfl (Ev.some ⟨rfl, Sc.refl _⟩)
    · unfold f12_fair
      rw [set_0.2]
      refine ev_bs (Ev.neg (by decide : ¬ (-1 : Int32) = -2) (Ev.neg (by decide : ¬ (-1 : Int32) = -3) ?_))
      have : ce_it (fun (st : Int32 × Int32 × Hp) => f12_fair_b25 F st.1 st.2.1 st.2.2) F ((0 : Int32), (0 : Int32), h) = some (0, h) := by
        obtain ⟨G, rfl⟩ : ∃ G, F = G + 1 := ⟨F - 1, by omega⟩
        refine it_end ?_ G
        rfl
      dsimp only
      rw [this]
      exact ev_bs (Ev.some ⟨rfl, Sc.refl _⟩)
  · refine ⟨V, fun h co => ?_, fun h co => ?_⟩
    · unfold f11_fair
      rw [ra h co]
      exact Ev.neg x0 (ev_bs (Ev.neg (cV hV).1 (Ev.some ⟨rfl, Sc.refl _⟩)))
    · unfold f12_fair
      refine Ev.bind (rb h co) (fun o ho => ?_)
      rcases hV with e | e
      · exact Ev.pos (by rw [ho.1, e]) (Ev.some ⟨ho.1, ho.2⟩)
      · exact Ev.neg (by rw [ho.1, e]; decide) (Ev.pos (by rw [ho.1, e]) (Ev.some ⟨ho.1, ho.2⟩))
  · subst ex
    have h2 := on.1.2.1
    have hb : 2 ^ m 2 ≤ 2 ^ 10 := Nat.pow_le_pow_right (by omega) h2
    have hcl := gs.1
    have io := itS_ok on tf gs
    have n10 := ct_le (inS c) 10
    generalize hN : ct (inS c) 10 = N at io n10
    refine ⟨nI (smS m r c N), fun h co => ?_, fun h co => ?_⟩
    · have b := net_le co.2.1
      unfold f11_fair
      rw [ra h co]
      refine Ev.neg (by simp (disch := omega) only [up_s, up_k, up_j, mm_neg, mm_def, ni_lt, ni_le, ni_eq, ni_mm, mm_ni, ni_lt_mm, ni_le_mm, mm_lt_ni, mm_le_ni, mm_lt_mm, mm_le_mm, ni_cl, ni_in, nI_add, ni_mul, ni_div, ni_rem, ni_rem2, fr_sub, fr_mm, fr_ge0, fr_lt0, fr_inj, l32_0, l32_1, l32_2, l32_3, l32_4, l32_5, l32_6, l32_7, l32_8, l32_9, l32_10, l32_11, l32_12, l32_13, l32_14, l32_15, l32_16, l32_20, l32_24, l32_25, l32_26, l32_31, l32_32, l32_34, l32_35, l32_39, l32_40, l32_44, l32_45, l32_46, l32_47, l32_48, l32_49, l32_57, l32_58, l32_59, l32_63, l32_64, l32_85, l32_90, l32_97, l32_99, l32_100, l32_110, l32_112, l32_122, l32_124, l32_125, l32_255, l32_680, l32_699, l32_700, l32_999, l32_2500, l32_99999, l32_100000, l32_1000000, if_true, if_false, ite_true, ite_false, ce_nm, Option.bind, if_pos, if_neg]; exact c0) (ev_bs (Ev.pos rfl ?_))
      dsimp only
      refine Ev.bind (P := fun o => o.1 = nI (smS m r c N) ∧ Sc h o.2) ?_ (fun o ho => Ev.some ho)
      refine Ev.it (I := fun i st => st.1 = nI (itS m r c i) ∧ st.2.1 = nI (smS m r c i) ∧ st.2.2.1 = nI i ∧ Sc h st.2.2.2) _ N ?_ F 0 _ (by omega) (by omega) ⟨rfl, rfl, rfl, Sc.refl _⟩
      rintro i ⟨x3, x4, x5, h1⟩ hi hI
      obtain ⟨rfl, rfl, rfl, s1⟩ : x3 = nI (itS m r c i) ∧ x4 = nI (smS m r c i) ∧ x5 = nI i ∧ Sc h h1 := hI
      show Ev (f11_fair_b26 F (nI (itS m r c i)) (nI (smS m r c i)) (nI i) h1) _
      obtain ⟨g1, g2⟩ := io i hi
      have gl := g1.1
      have co1 := co.sc s1
      unfold f11_fair_b26
      by_cases z : i = N
      · have e0 : itS m r c i = 0 := pc_z (by omega) (by omega)
        by_cases t : 10 ≤ i
        · refine Ev.pos (by simp (disch := omega) only [up_s, up_k, up_j, mm_neg, mm_def, ni_lt, ni_le, ni_eq, ni_mm, mm_ni, ni_lt_mm, ni_le_mm, mm_lt_ni, mm_le_ni, mm_lt_mm, mm_le_mm, ni_cl, ni_in, nI_add, ni_mul, ni_div, ni_rem, ni_rem2, fr_sub, fr_mm, fr_ge0, fr_lt0, fr_inj, l32_0, l32_1, l32_2, l32_3, l32_4, l32_5, l32_6, l32_7, l32_8, l32_9, l32_10, l32_11, l32_12, l32_13, l32_14, l32_15, l32_16, l32_20, l32_24, l32_25, l32_26, l32_31, l32_32, l32_34, l32_35, l32_39, l32_40, l32_44, l32_45, l32_46, l32_47, l32_48, l32_49, l32_57, l32_58, l32_59, l32_63, l32_64, l32_85, l32_90, l32_97, l32_99, l32_100, l32_110, l32_112, l32_122, l32_124, l32_125, l32_255, l32_680, l32_699, l32_700, l32_999, l32_2500, l32_99999, l32_100000, l32_1000000, if_true, if_false, ite_true, ite_false, ce_nm, Option.bind, if_pos, if_neg]; exact t) (Ev.some ⟨by rw [z], s1⟩)
        · refine Ev.neg (by simp (disch := omega) only [up_s, up_k, up_j, mm_neg, mm_def, ni_lt, ni_le, ni_eq, ni_mm, mm_ni, ni_lt_mm, ni_le_mm, mm_lt_ni, mm_le_ni, mm_lt_mm, mm_le_mm, ni_cl, ni_in, nI_add, ni_mul, ni_div, ni_rem, ni_rem2, fr_sub, fr_mm, fr_ge0, fr_lt0, fr_inj, l32_0, l32_1, l32_2, l32_3, l32_4, l32_5, l32_6, l32_7, l32_8, l32_9, l32_10, l32_11, l32_12, l32_13, l32_14, l32_15, l32_16, l32_20, l32_24, l32_25, l32_26, l32_31, l32_32, l32_34, l32_35, l32_39, l32_40, l32_44, l32_45, l32_46, l32_47, l32_48, l32_49, l32_57, l32_58, l32_59, l32_63, l32_64, l32_85, l32_90, l32_97, l32_99, l32_100, l32_110, l32_112, l32_122, l32_124, l32_125, l32_255, l32_680, l32_699, l32_700, l32_999, l32_2500, l32_99999, l32_100000, l32_1000000, if_true, if_false, ite_true, ite_false, ce_nm, Option.bind, if_pos, if_neg]; exact t) (Ev.pos (by rw [e0]; rfl) (Ev.some ⟨by rw [z], s1⟩))
      · have ne : itS m r c i ≠ 0 := fun q => by rw [q, pc_0] at g2; omega
        refine Ev.neg (by simp (disch := omega) only [up_s, up_k, up_j, mm_neg, mm_def, ni_lt, ni_le, ni_eq, ni_mm, mm_ni, ni_lt_mm, ni_le_mm, mm_lt_ni, mm_le_ni, mm_lt_mm, mm_le_mm, ni_cl, ni_in, nI_add, ni_mul, ni_div, ni_rem, ni_rem2, fr_sub, fr_mm, fr_ge0, fr_lt0, fr_inj, l32_0, l32_1, l32_2, l32_3, l32_4, l32_5, l32_6, l32_7, l32_8, l32_9, l32_10, l32_11, l32_12, l32_13, l32_14, l32_15, l32_16, l32_20, l32_24, l32_25, l32_26, l32_31, l32_32, l32_34, l32_35, l32_39, l32_40, l32_44, l32_45, l32_46, l32_47, l32_48, l32_49, l32_57, l32_58, l32_59, l32_63, l32_64, l32_85, l32_90, l32_97, l32_99, l32_100, l32_110, l32_112, l32_122, l32_124, l32_125, l32_255, l32_680, l32_699, l32_700, l32_999, l32_2500, l32_99999, l32_100000, l32_1000000, if_true, if_false, ite_true, ite_false, ce_nm, Option.bind, if_pos, if_neg]; omega) (Ev.neg (by simp (disch := omega) only [up_s, up_k, up_j, mm_neg, mm_def, ni_lt, ni_le, ni_eq, ni_mm, mm_ni, ni_lt_mm, ni_le_mm, mm_lt_ni, mm_le_ni, mm_lt_mm, mm_le_mm, ni_cl, ni_in, nI_add, ni_mul, ni_div, ni_rem, ni_rem2, fr_sub, fr_mm, fr_ge0, fr_lt0, fr_inj, l32_0, l32_1, l32_2, l32_3, l32_4, l32_5, l32_6, l32_7, l32_8, l32_9, l32_10, l32_11, l32_12, l32_13, l32_14, l32_15, l32_16, l32_20, l32_24, l32_25, l32_26, l32_31, l32_32, l32_34, l32_35, l32_39, l32_40, l32_44, l32_45, l32_46, l32_47, l32_48, l32_49, l32_57, l32_58, l32_59, l32_63, l32_64, l32_85, l32_90, l32_97, l32_99, l32_100, l32_110, l32_112, l32_122, l32_124, l32_125, l32_255, l32_680, l32_699, l32_700, l32_999, l32_2500, l32_99999, l32_100000, l32_1000000, if_true, if_false, ite_true, ite_false, ce_nm, Option.bind, if_pos, if_neg]; exact ne) (Ev.nm ?_))
        rw [co1.1, ni_cl (by omega)]
        refine Ev.grd co1.2.1 (Ev.bind (y_ask co1 tf g1 ne hF) (fun h5 hh => ?_))
        obtain ⟨b1, b2, w, b3, b4, b5, b6, b7, b8⟩ := gS_step on tf g1 ne
        have sw := set_w ⟨itS m r c i, by omega⟩ ⟨w, b3⟩
        dsimp only at sw
        unfold f11_without
        rw [hh.2.1, hh.2.2, b4, fr_s, sw, ← b8]
        refine ev_bs (Ev.some ⟨by omega, rfl, ?_, nI_1 i, s1.trans (hh.1.sc (by omega))⟩)
        dsimp only
        rw [nI_add]
        rfl
    · unfold f12_fair
      refine Ev.bind (rb h co) (fun o ho => ?_)
      obtain ⟨o1, o2, o3, o4, o5⟩ := ho
      refine Ev.neg (by rw [o1]; decide) (Ev.neg (by rw [o1]; decide) ?_)
      refine Ev.bind (P := fun o => o.1 = nI (smS m r c N) ∧ Sc h o.2) ?_ (fun o ho => Ev.some ho)
      refine Ev.it (I := fun i st => st.1 = nI (smS m r c i) ∧ st.2.1 = nI (itS m r c i) ∧ Sc h st.2.2 ∧ MF st.2.2 m (sM m)) _ N ?_ F 0 _ (by omega) (by omega) ⟨rfl, rfl, o2, o3⟩
      rintro i ⟨x3, x4, h1⟩ hi hI
      obtain ⟨rfl, rfl, s1, mf1⟩ : x3 = nI (smS m r c i) ∧ x4 = nI (itS m r c i) ∧ Sc h h1 ∧ MF h1 m (sM m) := hI
      show Ev (f12_fair_b25 F (nI (smS m r c i)) (nI (itS m r c i)) h1) _
      obtain ⟨g1, g2⟩ := io i hi
      have gl := g1.1
      have co1 := co.sc s1
      unfold f12_fair_b25
      by_cases z : i = N
      · have e0 : itS m r c i = 0 := pc_z (by omega) (by omega)
        exact Ev.pos (by rw [e0]; rfl) (Ev.some ⟨by rw [z], s1⟩)
      · have ne : itS m r c i ≠ 0 := fun q => by rw [q, pc_0] at g2; omega
        refine Ev.neg (by simp (disch := omega) only [up_s, up_k, up_j, mm_neg, mm_def, ni_lt, ni_le, ni_eq, ni_mm, mm_ni, ni_lt_mm, ni_le_mm, mm_lt_ni, mm_le_ni, mm_lt_mm, mm_le_mm, ni_cl, ni_in, nI_add, ni_mul, ni_div, ni_rem, ni_rem2, fr_sub, fr_mm, fr_ge0, fr_lt0, fr_inj, l32_0, l32_1, l32_2, l32_3, l32_4, l32_5, l32_6, l32_7, l32_8, l32_9, l32_10, l32_11, l32_12, l32_13, l32_14, l32_15, l32_16, l32_20, l32_24, l32_25, l32_26, l32_31, l32_32, l32_34, l32_35, l32_39, l32_40, l32_44, l32_45, l32_46, l32_47, l32_48, l32_49, l32_57, l32_58, l32_59, l32_63, l32_64, l32_85, l32_90, l32_97, l32_99, l32_100, l32_110, l32_112, l32_122, l32_124, l32_125, l32_255, l32_680, l32_699, l32_700, l32_999, l32_2500, l32_99999, l32_100000, l32_1000000, if_true, if_false, ite_true, ite_false, ce_nm, Option.bind, if_pos, if_neg]; exact ne) (Ev.bind (y_wins co1 mf1 tf g1 ne hF) (fun h5 hh => ?_))
        obtain ⟨b1, b2, w, b3, b4, b5, b6, b7, b8⟩ := gS_step on tf g1 ne
        have sw := set_w ⟨itS m r c i, by omega⟩ ⟨w, b3⟩
        dsimp only at sw
        rw [hh.2.2.1, hh.2.2.2, b4, fr_s, sw, ← b8]
        refine Ev.some ⟨by omega, ?_, rfl, s1.trans hh.1, hh.2.1⟩
        dsimp only
        rw [nI_add]
        rfl
theorem q_turn {F : Nat} (hF : 1000 ≤ F) (x y : Int32) : Gd (f11_turn F x y) (f12_turn F x y) := by
  have neg : ∀ z : Int32, ¬ (0 : Int32) ≤ z → z < 0 := fun z q => by
    apply Int32.lt_iff_toInt_lt.mpr
    have : ¬ (0 : Int32).toInt ≤ z.toInt := fun w => q (Int32.le_iff_toInt_le.mpr w)
    omega
  refine gd_set (x := x) hF (fun x0 m kn => ?_) (fun m kn on x0 V hV ra rb => ?_) (fun m kn c r hp on ex c0 tf gs ra rb => ?_)
  · subst x0
    by_cases y0 : 0 ≤ y
    · refine ⟨-1, fun h co => ?_, fun h co => ?_⟩
      · unfold f11_turn
        rw [set_0.1]
        exact Ev.pos y0 (ev_bs (Ev.neg cn1 (Ev.some ⟨rfl, Sc.refl _⟩)))
      · unfold f12_turn
        rw [set_0.2]
        refine ev_bs (Ev.neg cn1' (Ev.pos rfl (Ev.pos y0 ?_)))
        have : ce_it (fun (st : Int32 × Int32 × Hp) => f12_turn_b43 F st.1 st.2.1 st.2.2) F ((0 : Int32), y, h) = some (.inr h) := by
          obtain ⟨G, rfl⟩ : ∃ G, F = G + 1 := ⟨F - 1, by omega⟩
          refine it_end ?_ G
          rfl
        dsimp only
        rw [this]
        exact Ev.some ⟨rfl, Sc.refl _⟩
    · refine ⟨-2, fun h co => ?_, fun h co => ?_⟩
      · unfold f11_turn
        exact Ev.neg y0 (Ev.some ⟨rfl, Sc.refl _⟩)
      · unfold f12_turn
        rw [set_0.2]
        exact ev_bs (Ev.neg cn1' (Ev.pos rfl (Ev.neg y0 (Ev.neg (by decide : ¬ (-1 : Int32) = -3) (Ev.some ⟨rfl, Sc.refl _⟩)))))
  · by_cases y0 : 0 ≤ y
    · refine ⟨V, fun h co => ?_, fun h co => ?_⟩
      · unfold f11_turn
        rw [ra h co]
        exact Ev.pos y0 (ev_bs (Ev.neg (cV hV).1 (Ev.some ⟨rfl, Sc.refl _⟩)))
      · unfold f12_turn
        refine Ev.bind (rb h co) (fun o ho => Ev.neg (by rw [ho.1]; exact (cV hV).2.1) (Ev.neg (by rw [ho.1]; exact (cV hV).2.2) ?_))
        rcases hV with e | e
        · exact Ev.neg (by rw [ho.1, e]; decide) (Ev.some ⟨e.symm, ho.2⟩)
        · refine Ev.pos (by rw [ho.1, e]) (Ev.neg (fun q => ?_) (Ev.some ⟨e.symm, ho.2⟩))
          have a := Int32.lt_iff_toInt_lt.mp q
          have b := Int32.le_iff_toInt_le.mp y0
          omega
    · refine ⟨-2, fun h co => ?_, fun h co => ?_⟩
      · unfold f11_turn
        exact Ev.neg y0 (Ev.some ⟨rfl, Sc.refl _⟩)
      · unfold f12_turn
        refine Ev.bind (rb h co) (fun o ho => Ev.neg (by rw [ho.1]; exact (cV hV).2.1) (Ev.neg (by rw [ho.1]; exact (cV hV).2.2) ?_))
        rcases hV with e | e
        · exact Ev.neg (by rw [ho.1, e]; decide) (Ev.some ⟨rfl, ho.2⟩)
        · exact Ev.pos (by rw [ho.1, e]) (Ev.pos (neg y y0) (Ev.some ⟨rfl, ho.2⟩))
  · subst ex
    by_cases y0 : 0 ≤ y
    rotate_left
    · refine ⟨-2, fun h co => ?_, fun h co => ?_⟩
      · unfold f11_turn
        exact Ev.neg y0 (Ev.some ⟨rfl, Sc.refl _⟩)
      · unfold f12_turn
        refine Ev.bind (rb h co) (fun o ho => Ev.pos (by rw [ho.1]; decide) (Ev.neg y0 (Ev.neg (by rw [ho.1]; decide) (Ev.some ⟨rfl, ho.2.1⟩))))
    obtain ⟨k, hk, rfl⟩ : ∃ k, k < 2147483648 ∧ y = nI k := by
      rcases i32_of y with hy | q
      · exfalso
        have a := Int32.lt_iff_toInt_lt.mp hy
        have b := Int32.le_iff_toInt_le.mp y0
        have : (nI 0).toInt = (0 : Int32).toInt := rfl
        omega
      · exact q
    have h2 := on.1.2.1
    have hb : 2 ^ m 2 ≤ 2 ^ 10 := Nat.pow_le_pow_right (by omega) h2
    have hcl := gs.1
    have io := itS_ok on tf gs
    have n10 := ct_le (inS c) 10
    generalize hN : ct (inS c) 10 = N at io n10
    refine ⟨if k < N then fr (aw m (Pf m (sM m)) (itS m r c k) 12 r).1 else mm, fun h co => ?_, fun h co => ?_⟩
    · have b := net_le co.2.1
      unfold f11_turn
      rw [ra h co]
      refine Ev.pos y0 (ev_bs (Ev.pos rfl ?_))
      dsimp only
      refine Ev.bind (P := fun o => (k < N ∧ ∃ h5, o = .inl (fr (aw m (Pf m (sM m)) (itS m r c k) 12 r).1, h5) ∧ Sc h h5) ∨ (¬ k < N ∧ ∃ h5, o = .inr h5 ∧ Sc h h5)) ?_ (fun o ho => ?_)
      · refine Ev.it (I := fun i st => i ≤ k ∧ st.1 = nI (itS m r c i) ∧ st.2.1 = nI i ∧ Sc h st.2.2) _ N ?_ F 0 _ (by omega) (by omega) ⟨by omega, rfl, rfl, Sc.refl _⟩
        rintro i ⟨x3, x5, h1⟩ hi hI
        obtain ⟨hik, rfl, rfl, s1⟩ : i ≤ k ∧ x3 = nI (itS m r c i) ∧ x5 = nI i ∧ Sc h h1 := hI
        show Ev (f11_turn_b25 F (nI k) (nI (itS m r c i)) (nI i) h1) _
        obtain ⟨g1, g2⟩ := io i hi
        have gl := g1.1
        have co1 := co.sc s1
        unfold f11_turn_b25
        by_cases z : i = N
        · have e0 : itS m r c i = 0 := pc_z (by omega) (by omega)
          by_cases t : 10 ≤ i
          · exact Ev.pos (by simp (disch := omega) only [up_s, up_k, up_j, mm_neg, mm_def, ni_lt, ni_le, ni_eq, ni_mm, mm_ni, ni_lt_mm, ni_le_mm, mm_lt_ni, mm_le_ni, mm_lt_mm, mm_le_mm, ni_cl, ni_in, nI_add, ni_mul, ni_div, ni_rem, ni_rem2, fr_sub, fr_mm, fr_ge0, fr_lt0, fr_inj, l32_0, l32_1, l32_2, l32_3, l32_4, l32_5, l32_6, l32_7, l32_8, l32_9, l32_10, l32_11, l32_12, l32_13, l32_14, l32_15, l32_16, l32_20, l32_24, l32_25, l32_26, l32_31, l32_32, l32_34, l32_35, l32_39, l32_40, l32_44, l32_45, l32_46, l32_47, l32_48, l32_49, l32_57, l32_58, l32_59, l32_63, l32_64, l32_85, l32_90, l32_97, l32_99, l32_100, l32_110, l32_112, l32_122, l32_124, l32_125, l32_255, l32_680, l32_699, l32_700, l32_999, l32_2500, l32_99999, l32_100000, l32_1000000, if_true, if_false, ite_true, ite_false, ce_nm, Option.bind, if_pos, if_neg]; exact t) (Ev.some (Or.inr ⟨by omega, _, rfl, s1⟩))
          · exact Ev.neg (by simp (disch := omega) only [up_s, up_k, up_j, mm_neg, mm_def, ni_lt, ni_le, ni_eq, ni_mm, mm_ni, ni_lt_mm, ni_le_mm, mm_lt_ni, mm_le_ni, mm_lt_mm, mm_le_mm, ni_cl, ni_in, nI_add, ni_mul, ni_div, ni_rem, ni_rem2, fr_sub, fr_mm, fr_ge0, fr_lt0, fr_inj, l32_0, l32_1, l32_2, l32_3, l32_4, l32_5, l32_6, l32_7, l32_8, l32_9, l32_10, l32_11, l32_12, l32_13, l32_14, l32_15, l32_16, l32_20, l32_24, l32_25, l32_26, l32_31, l32_32, l32_34, l32_35, l32_39, l32_40, l32_44, l32_45, l32_46, l32_47, l32_48, l32_49, l32_57, l32_58, l32_59, l32_63, l32_64, l32_85, l32_90, l32_97, l32_99, l32_100, l32_110, l32_112, l32_122, l32_124, l32_125, l32_255, l32_680, l32_699, l32_700, l32_999, l32_2500, l32_99999, l32_100000, l32_1000000, if_true, if_false, ite_true, ite_false, ce_nm, Option.bind, if_pos, if_neg]; exact t) (Ev.pos (by rw [e0]; rfl) (Ev.some (Or.inr ⟨by omega, _, rfl, s1⟩)))
        · have ne : itS m r c i ≠ 0 := fun q => by rw [q, pc_0] at g2; omega
          refine Ev.neg (by simp (disch := omega) only [up_s, up_k, up_j, mm_neg, mm_def, ni_lt, ni_le, ni_eq, ni_mm, mm_ni, ni_lt_mm, ni_le_mm, mm_lt_ni, mm_le_ni, mm_lt_mm, mm_le_mm, ni_cl, ni_in, nI_add, ni_mul, ni_div, ni_rem, ni_rem2, fr_sub, fr_mm, fr_ge0, fr_lt0, fr_inj, l32_0, l32_1, l32_2, l32_3, l32_4, l32_5, l32_6, l32_7, l32_8, l32_9, l32_10, l32_11, l32_12, l32_13, l32_14, l32_15, l32_16, l32_20, l32_24, l32_25, l32_26, l32_31, l32_32, l32_34, l32_35, l32_39, l32_40, l32_44, l32_45, l32_46, l32_47, l32_48, l32_49, l32_57, l32_58, l32_59, l32_63, l32_64, l32_85, l32_90, l32_97, l32_99, l32_100, l32_110, l32_112, l32_122, l32_124, l32_125, l32_255, l32_680, l32_699, l32_700, l32_999, l32_2500, l32_99999, l32_100000, l32_1000000, if_true, if_false, ite_true, ite_false, ce_nm, Option.bind, if_pos, if_neg]; omega) (Ev.neg (by simp (disch := omega) only [up_s, up_k, up_j, mm_neg, mm_def, ni_lt, ni_le, ni_eq, ni_mm, mm_ni, ni_lt_mm, ni_le_mm, mm_lt_ni, mm_le_ni, mm_lt_mm, mm_le_mm, ni_cl, ni_in, nI_add, ni_mul, ni_div, ni_rem, ni_rem2, fr_sub, fr_mm, fr_ge0, fr_lt0, fr_inj, l32_0, l32_1, l32_2, l32_3, l32_4, l32_5, l32_6, l32_7, l32_8, l32_9, l32_10, l32_11, l32_12, l32_13, l32_14, l32_15, l32_16, l32_20, l32_24, l32_25, l32_26, l32_31, l32_32, l32_34, l32_35, l32_39, l32_40, l32_44, l32_45, l32_46, l32_47, l32_48, l32_49, l32_57, l32_58, l32_59, l32_63, l32_64, l32_85, l32_90, l32_97, l32_99, l32_100, l32_110, l32_112, l32_122, l32_124, l32_125, l32_255, l32_680, l32_699, l32_700, l32_999, l32_2500, l32_99999, l32_100000, l32_1000000, if_true, if_false, ite_true, ite_false, ce_nm, Option.bind, if_pos, if_neg]; exact ne) (Ev.nm ?_))
          rw [co1.1, ni_cl (by omega)]
          refine Ev.grd co1.2.1 (Ev.bind (y_ask co1 tf g1 ne hF) (fun h5 hh => ?_))
          have s5 := s1.trans (hh.1.sc (by omega))
          by_cases ik : i = k
          · refine Ev.pos (by rw [ik]) (Ev.some (Or.inl ⟨by omega, h5, ?_, s5⟩))
            rw [hh.2.1, ik]
          · obtain ⟨b1, b2, w, b3, b4, b5, b6, b7, b8⟩ := gS_step on tf g1 ne
            have sw := set_w ⟨itS m r c i, by omega⟩ ⟨w, b3⟩
            dsimp only at sw
            refine Ev.neg (by rw [ni_eq (by omega) (by omega)]; exact ik) ?_
            unfold f11_without
            rw [hh.2.1, b4, fr_s, sw, ← b8]
            exact ev_bs (Ev.some ⟨by omega, by omega, rfl, nI_1 i, s5⟩)
      · rcases ho with ⟨q, h5, rfl, s5⟩ | ⟨q, h5, rfl, s5⟩
        · exact Ev.some ⟨(if_pos q).symm, s5⟩
        · exact Ev.some ⟨(if_neg q).symm, s5⟩
    · unfold f12_turn
      refine Ev.bind (rb h co) (fun o ho => ?_)
      obtain ⟨o1, o2, o3, o4, o5⟩ := ho
      refine Ev.pos (by rw [o1]; decide) (Ev.pos y0 ?_)
      refine Ev.bind (P := fun o => (k < N ∧ ∃ h5, o = .inl (fr (aw m (Pf m (sM m)) (itS m r c k) 12 r).1, h5) ∧ Sc h h5) ∨ (¬ k < N ∧ ∃ h5, o = .inr h5 ∧ Sc h h5)) ?_ (fun o ho => ?_)
      · refine Ev.it (I := fun i st => i ≤ k ∧ st.1 = nI (itS m r c i) ∧ st.2.1 = nI (k - i) ∧ Sc h st.2.2 ∧ MF st.2.2 m (sM m)) _ N ?_ F 0 _ (by omega) (by omega) ⟨by omega, rfl, rfl, o2, o3⟩
        rintro i ⟨x3, x5, h1⟩ hi hI
        obtain ⟨hik, rfl, rfl, s1, mf1⟩ : i ≤ k ∧ x3 = nI (itS m r c i) ∧ x5 = nI (k - i) ∧ Sc h h1 ∧ MF h1 m (sM m) := hI
        show Ev (f12_turn_b43 F (nI (itS m r c i)) (nI (k - i)) h1) _
        obtain ⟨g1, g2⟩ := io i hi
        have gl := g1.1
        have co1 := co.sc s1
        unfold f12_turn_b43
        by_cases z : i = N
        · have e0 : itS m r c i = 0 := pc_z (by omega) (by omega)
          exact Ev.pos (by rw [e0]; rfl) (Ev.some (Or.inr ⟨by omega, _, rfl, s1⟩))
        · have ne : itS m r c i ≠ 0 := fun q => by rw [q, pc_0] at g2; omega
          refine Ev.neg (by simp (disch := omega) only [up_s, up_k, up_j, mm_neg, mm_def, ni_lt, ni_le, ni_eq, ni_mm, mm_ni, ni_lt_mm, ni_le_mm, mm_lt_ni, mm_le_ni, mm_lt_mm, mm_le_mm, ni_cl, ni_in, nI_add, ni_mul, ni_div, ni_rem, ni_rem2, fr_sub, fr_mm, fr_ge0, fr_lt0, fr_inj, l32_0, l32_1, l32_2, l32_3, l32_4, l32_5, l32_6, l32_7, l32_8, l32_9, l32_10, l32_11, l32_12, l32_13, l32_14, l32_15, l32_16, l32_20, l32_24, l32_25, l32_26, l32_31, l32_32, l32_34, l32_35, l32_39, l32_40, l32_44, l32_45, l32_46, l32_47, l32_48, l32_49, l32_57, l32_58, l32_59, l32_63, l32_64, l32_85, l32_90, l32_97, l32_99, l32_100, l32_110, l32_112, l32_122, l32_124, l32_125, l32_255, l32_680, l32_699, l32_700, l32_999, l32_2500, l32_99999, l32_100000, l32_1000000, if_true, if_false, ite_true, ite_false, ce_nm, Option.bind, if_pos, if_neg]; exact ne) (Ev.bind (y_wins co1 mf1 tf g1 ne hF) (fun h5 hh => ?_))
          have s5 := s1.trans hh.1
          by_cases ik : i = k
          · refine Ev.pos (by rw [ik, Nat.sub_self]; rfl) (Ev.some (Or.inl ⟨by omega, h5, ?_, s5⟩))
            rw [hh.2.2.1, ik]
          · obtain ⟨b1, b2, w, b3, b4, b5, b6, b7, b8⟩ := gS_step on tf g1 ne
            have sw := set_w ⟨itS m r c i, by omega⟩ ⟨w, b3⟩
            dsimp only at sw
            have e1 : nI (k - i) + (-1 : Int32) = nI (k - (i + 1)) := by rw [mm_def, ni_addm (by omega), show k - i - 1 = k - (i + 1) by omega]
            refine Ev.neg (by simp (disch := omega) only [up_s, up_k, up_j, mm_neg, mm_def, ni_lt, ni_le, ni_eq, ni_mm, mm_ni, ni_lt_mm, ni_le_mm, mm_lt_ni, mm_le_ni, mm_lt_mm, mm_le_mm, ni_cl, ni_in, nI_add, ni_mul, ni_div, ni_rem, ni_rem2, fr_sub, fr_mm, fr_ge0, fr_lt0, fr_inj, l32_0, l32_1, l32_2, l32_3, l32_4, l32_5, l32_6, l32_7, l32_8, l32_9, l32_10, l32_11, l32_12, l32_13, l32_14, l32_15, l32_16, l32_20, l32_24, l32_25, l32_26, l32_31, l32_32, l32_34, l32_35, l32_39, l32_40, l32_44, l32_45, l32_46, l32_47, l32_48, l32_49, l32_57, l32_58, l32_59, l32_63, l32_64, l32_85, l32_90, l32_97, l32_99, l32_100, l32_110, l32_112, l32_122, l32_124, l32_125, l32_255, l32_680, l32_699, l32_700, l32_999, l32_2500, l32_99999, l32_100000, l32_1000000, if_true, if_false, ite_true, ite_false, ce_nm, Option.bind, if_pos, if_neg]; omega) ?_
            rw [hh.2.2.1, b4, fr_s, sw, ← b8, e1]
            exact Ev.some ⟨by omega, by omega, rfl, rfl, s5, hh.2.1⟩
      · rcases ho with ⟨q, h5, rfl, s5⟩ | ⟨q, h5, rfl, s5⟩
        · exact Ev.some ⟨(if_pos q).symm, s5⟩
        · exact Ev.some ⟨(if_neg q).symm, s5⟩
