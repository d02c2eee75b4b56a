-- rootBy
/-- all the same but who is forced -/
def Em (m m' : Nat → Nat) : Prop := ∀ j, (j < 15 ∨ 25 ≤ j) → m' j = m j
theorem Em.ogn {m m' : Nat → Nat} (h : Em m m') : og m' = og m := funext (fun e => h (45 + e) (by omega))
theorem cl_m {o m m' : Nat → Nat} (h : ∀ e, m' (85 + e) = m (85 + e)) (t v p : Nat) (s : Es) : cl o m' t v p s = cl o m t v p s := by
  unfold cl
  rw [h]
theorem es_m {o m m' wt : Nat → Nat} (h : ∀ e, m' (85 + e) = m (85 + e)) (t v : Nat) (s : Es) : es o m' wt t v s = es o m wt t v s := by
  unfold es
  simp only [cl_m h]
theorem eT_m {o m m' wt : Nat → Nat} (h : ∀ e, m' (85 + e) = m (85 + e)) (t n : Nat) (s : Es) : eT o m' wt t n s = eT o m wt t n s := by
  induction n with
  | zero => rfl
  | succ n ih =>
    show es o m' wt t n (eT o m' wt t n s) = es o m wt t n (eT o m wt t n s)
    rw [ih, es_m h]
theorem rM_m {o m m' wt : Nat → Nat} (h : ∀ e, m' (85 + e) = m (85 + e)) (n t : Nat) : rM o m' wt n t = rM o m wt n t := by
  induction t with
  | zero => rfl
  | succ t ih =>
    show eT o m' wt t n (rM o m' wt n t) = eT o m wt t n (rM o m wt n t)
    rw [ih, eT_m h]
theorem Em.btn {m m' : Nat → Nat} (h : Em m m') : bt m' = bt m := by
  funext v k
  unfold bt
  rw [h (35 + v) (by omega), h (25 + v) (by omega)]
theorem Em.rfn {m m' : Nat → Nat} (h : Em m m') (s : Es) : Rf m' s = Rf m s := by
  funext v
  have e1 : ∀ e, CWe (og m) m' s e = CWe (og m) m s e := fun e => by
    unfold CWe
    rw [h.btn, h (85 + e) (by omega)]
  unfold Rf Rd
  rw [h.ogn]
  have e2 : ∀ e, wno (og m) m' s e = wno (og m) m s e := fun e => by
    unfold wno
    rw [e1]
  rw [e2, e1]
theorem Em.okn {m m' : Nat → Nat} (h : Em m m') (on : OkN m) (hf : ∀ v, v < m 2 → m' (15 + v) ≤ 1) : OkN m' := by
  obtain ⟨⟨a1, a2, a3, a4, a5⟩, b, c, d, e, f, g⟩ := on
  refine ⟨⟨by rw [h 1 (by omega)]; exact a1, by rw [h 2 (by omega)]; exact a2, fun v hv => ?_, by rw [h.ogn]; exact a4, fun e he h0 => ?_⟩, fun v hv => ?_, by rw [h 0 (by omega)]; exact c, fun v hv => ?_, by rw [h 3 (by omega)]; exact e, by rw [h 4 (by omega)]; exact f, fun z => ?_⟩
  · rw [h 2 (by omega)] at hv
    rw [h (5 + v) (by omega)]
    exact a3 v hv
  · rw [h.ogn] at h0 ⊢
    have q := a5 e he h0
    have hog := og_le a4 he
    rw [h 2 (by omega), h (5 + e / 4) (by omega), h (85 + e) (by omega), h (85 + (og m e - 1)) (by omega)]
    exact q
  · rw [h 2 (by omega)] at hv
    rw [h (25 + v) (by omega), h (35 + v) (by omega)]
    exact b v hv
  · rw [h 2 (by omega)] at hv
    exact hf v hv
  · rw [h 3 (by omega)] at z
    rw [h 2 (by omega), h 4 (by omega)]
    exact g z
theorem x_mroot {m : Nat → Nat} {v F : Nat} {h : Hp} (on : OkN m) (cm : MN h m) (hv : v < m 2) (hF : 1000 ≤ F) : Ev (f12_root F (nI v) h) (fun o => o.1 = (if sz (og m) v ≤ cb (og m) v then mm else fr (fi (rq m (Rf m (sM m)) v) 10)) ∧ Fr 75 82 h o.2) := by
  have n1 : ¬ (nI 1 : Int32) = 0 := by decide
  have why : Ev (f12_whyNot F (nI v) h) (fun o => o.1 = (if sz (og m) v ≤ cb (og m) v then mm else nI 0) ∧ Fr 75 82 h o.2 ∧ MF o.2 m (sM m)) := by
    unfold f12_whyNot
    rw [x_isNode (nI v) on.1.2.1 cm, isN_t hv]
    refine ev_bs (Ev.neg n1 (Ev.bind (x_runs on.1 on.2.1 on.2.2.1 on.2.2.2.1 cm hF) (fun h1 hh => ?_)))
    obtain ⟨f1, mf⟩ := hh
    refine Ev.bind (x_isLoop on.1 (cm.fr f1 (by omega)) hv hF) (fun o ho => ?_)
    obtain ⟨o1, f2, lb⟩ := ho
    have mf2 : MF o.2 m (sM m) := MF.eqv mf (fun k k1 k2 => f2 k (by omega))
    have s2 : Fr 75 82 h o.2 := (f1.wide (by omega) (by omega)).trans (f2.wide (by omega) (by omega))
    by_cases z : sz (og m) v ≤ cb (og m) v
    · refine Ev.neg (by rw [o1, if_pos z]; decide) (Ev.some ⟨?_, s2, mf2⟩)
      rw [if_pos z]
      rfl
    · refine Ev.pos (by rw [o1, if_neg z]; rfl) (Ev.some ⟨?_, s2, mf2⟩)
      rw [if_neg z]
      rfl
  unfold f12_root
  refine Ev.bind why (fun o ho => ?_)
  obtain ⟨o1, s1, mf⟩ := ho
  by_cases z : sz (og m) v ≤ cb (og m) v
  · rw [if_pos z] at o1 ⊢
    exact Ev.neg (by rw [o1]; decide) (Ev.some ⟨o1, s1⟩)
  · rw [if_neg z] at o1 ⊢
    refine Ev.pos (by rw [o1]; decide) (Ev.bind (x_rootOf on.1 (cm.fr s1 (by omega)) (fun v hv => (mf.el hv).2.1) on.rb hv hF) (fun p hp => Ev.some ⟨hp.1, s1.trans (hp.2.1.wide (by omega) (by omega))⟩))
theorem q_rootBy {F : Nat} (hF : 1000 ≤ F) (x : Int32) : Gd (f11_rootBy F x) (f12_rootBy F x) := by
  intro m kn
  by_cases on : OkN m
  rotate_left
  · exact ⟨0, fun h c => absurd c.2.2.1 on, fun h c => absurd c.2.2.1 on⟩
  have h2 := on.1.2.1
  have n1 : ¬ (nI 1 : Int32) = 0 := by decide
  by_cases nx : isN m x = false
  · refine ⟨-2, fun h c => ?_, fun h c => ?_⟩
    · unfold f11_rootBy
      rw [x_refusal0 c nx]
      exact ev_bs (Ev.neg cn2 (Ev.some ⟨rfl, Sc.refl _⟩))
    · unfold f12_rootBy
      rw [x_isNode x h2 c.2.2.2.1, nx]
      exact ev_bs (Ev.pos rfl (Ev.some ⟨rfl, Sc.refl _⟩))
  · obtain ⟨v, hv, rfl⟩ := isN_ex nx
    obtain ⟨m', hm'⟩ : ∃ m', m' = un m (15 + v) 1 := ⟨_, rfl⟩
    have em : Em m m' := fun j hj => by rw [hm']; exact un_n (by omega)
    have ff : ∀ u, m' (15 + u) = if u = v then 1 else m (15 + u) := fun u => by
      rw [hm']
      by_cases z : u = v
      · rw [z, un_s, if_pos rfl]
      · rw [un_n (by omega), if_neg z]
    have on' : OkN m' := em.okn on (fun u hu => by
      rw [ff]
      by_cases z : u = v
      · rw [if_pos z]; omega
      · rw [if_neg z]; exact on.2.2.2.1 u hu)
    have m2 : m' 2 = m 2 := em 2 (by omega)
    have m0 : m' 0 = m 0 := em 0 (by omega)
    obtain ⟨s', hs'⟩ : ∃ s', s' = rM (og m) m (wtm m') (m 2) 700 := ⟨_, rfl⟩
    have sme : sM m' = s' := by
      rw [hs']
      unfold sM
      rw [em.ogn, m2]
      exact rM_m (fun e => em (85 + e) (by omega)) _ _
    have hwt := wtm_le on'.2.2.1
    have fs' : FS m (wtm m') s' := by rw [hs']; exact FS_of on.1 hwt
    have rfe : Rf m' (sM m') = Rf m s' := by rw [em.rfn, sme]
    refine ⟨if sz (og m) v ≤ cb (og m) v then mm else fr (fi (rq m (Rf m s') v) 10), fun h c => ?_, fun h c => ?_⟩
    · have b := net_le c.2.1
      have l := c.liv hv
      unfold f11_rootBy
      rw [x_refusal c hv]
      refine ev_bs ?_
      dsimp only
      by_cases z : sz (og m) v ≤ cb (og m) v
      · rw [if_pos z]
        exact Ev.neg cmm (Ev.some ⟨(if_pos z).symm, Sc.refl _⟩)
      · rw [if_neg z]
        refine Ev.pos rfl (Ev.nm ?_)
        rw [c.1, ni_cl (by omega)]
        refine Ev.grd c.2.1 ?_
        have nr := c.2.2.2.2.1
        refine Ev.bind (x_hold (k := 55) (wt := wtm m') (x := nI v) (Or.inr rfl) c.2.1 on.1 on.2.1 hwt on.2.2.1 nr.1 nr.2.2.1 (fun u hu => ⟨nr.2.2.2.2.1 u hu, on.2.2.2.1 u hu⟩) nr.2.2.2.2.2 (fun u hu => ?_) hF) (fun h1 hh => ?_)
        · unfold wtm
          rw [ff, m0]
          by_cases y : u = v
          · rw [if_pos y, if_neg (by omega), if_neg (fun q => q.2 (by rw [y]))]
          · rw [if_neg y]
            have ne : ¬ nI u = nI v := fun q => by rw [ni_eq (by omega) (by omega)] at q; exact y q
            by_cases w : m (15 + u) = 0
            · rw [if_pos w, if_pos ⟨w, ne⟩]
            · rw [if_neg w, if_neg (fun q => w q.1)]
        · obtain ⟨f1, cf⟩ := hh
          rw [← hs'] at cf
          have s1 : Sc h h1 := f1.sc (by omega)
          have c1 := c.sc s1
          rw [x_rootIn (R := Rf m s') (k := 55) on.1 (c1.cs (c1.liv hv)) (fun u hu => (cf u hu).2.1) (fun u hu => ⟨fs'.rle hu, fun q => fs'.rlt hu q⟩) hv hF]
          refine ev_bs (Ev.some ⟨?_, s1⟩)
          dsimp only
          rw [if_neg z]
    · have e15 : (15 : Int32) + nI v = nI (15 + v) := by rw [l32_15, nI_add]
      unfold f12_rootBy
      rw [x_isNode _ h2 c.2.2.2.1, isN_t hv]
      refine ev_bs (Ev.neg n1 ?_)
      dsimp only
      rw [e15, ni_cl (by omega)]
      refine Ev.grd (ni_in (by omega) (by omega)) (Ev.grd (ni_in (by omega) (by omega)) (Ev.nm ?_))
      have cm' : MN (hp_up h 69 (15 + v) 1) m' := fun j hj => by
        rw [hm']
        by_cases z : j = 15 + v
        · rw [z, up_s, un_s]; rfl
        · rw [up_j _ _ _ _ _ z, un_n z]; exact c.2.2.2.1 j hj
      refine Ev.bind (x_mroot on' cm' (by rw [m2]; exact hv) hF) (fun o ho => ?_)
      obtain ⟨o1, f1⟩ := ho
      refine Ev.grd (ni_in (by omega) (by omega)) (Ev.nm (Ev.some ⟨?_, fun k hk => ?_, fun j hj => ?_⟩))
      · dsimp only
        rw [o1, em.ogn, rfe]
        have : rq m' (Rf m s') v = rq m (Rf m s') v := by
          unfold rq
          rw [em.ogn]
        rw [this]
      · dsimp only
        by_cases z : k = 69
        · rw [z]
          funext j
          by_cases y : j = 15 + v
          · rw [y, up_s]
          · rw [up_j _ _ _ _ _ y, f1 69 (by omega), up_j _ _ _ _ _ y]
        · rw [up_kk _ _ _ _ _ z, f1 k (by omega), up_kk _ _ _ _ _ z]
      · dsimp only
        rw [up_k _ _ _ _ _ _ (by omega), f1 68 (by omega), up_k _ _ _ _ _ _ (by omega)]
