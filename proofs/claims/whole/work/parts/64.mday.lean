theorem hand_day (v : St) (t p : Nat) (x : Int32) : sDay (handS v t p x) = sDay v := rfl
theorem Rel.due {u : St} {s : F32} (h : Rel u s) {t : Nat} (ht : t < 8) (x : Int32) : Rel (sDue' u (upd (sDue u) t x)) (upd s (24 + 6 * t) x) := by
  obtain ⟨h0, h1, h2, h3, h4⟩ := h
  refine ⟨?_, ?_, ?_, fun p hp => ⟨?_, ?_, ?_⟩, fun t' ht' => ⟨?_, ?_, ?_, ?_, ?_, ?_⟩⟩
  · rw [upd_at, if_neg (by omega)]; exact h0
  · rw [upd_at, if_neg (by omega)]; exact h1
  · rw [upd_at, if_neg (by omega)]; exact h2
  · rw [upd_at, if_neg (by omega)]; exact (h3 p hp).1
  · rw [upd_at, if_neg (by omega)]; exact (h3 p hp).2.1
  · rw [upd_at, if_neg (by omega)]; exact (h3 p hp).2.2
  · rw [upd_at, if_neg (by omega)]; exact (h4 t' ht').1
  · rw [upd_at, if_neg (by omega)]; exact (h4 t' ht').2.1
  · rw [upd_at, if_neg (by omega)]; exact (h4 t' ht').2.2.1
  · show _ = upd (sDue u) t x t'
    rw [upd_at, upd_at]
    by_cases e : t' = t
    · subst e; rw [if_pos rfl, if_pos rfl]
    · rw [if_neg (by omega), if_neg e]; exact (h4 t' ht').2.2.2.1
  · rw [upd_at, if_neg (by omega)]; exact (h4 t' ht').2.2.2.2.1
  · rw [upd_at, if_neg (by omega)]; exact (h4 t' ht').2.2.2.2.2
theorem Rel.mns {u : St} {s : F32} (h : Rel u s) {p : Nat} (hp : p < 6) (x : Int32) : Rel (sMns' u (upd (sMns u) p x)) (upd s (3 + 3 * p) x) := by
  obtain ⟨h0, h1, h2, h3, h4⟩ := h
  refine ⟨?_, ?_, ?_, fun q hq => ⟨?_, ?_, ?_⟩, fun t' ht' => ⟨?_, ?_, ?_, ?_, ?_, ?_⟩⟩
  · rw [upd_at, if_neg (by omega)]; exact h0
  · rw [upd_at, if_neg (by omega)]; exact h1
  · rw [upd_at, if_neg (by omega)]; exact h2
  · show _ = upd (sMns u) p x q
    rw [upd_at, upd_at]
    by_cases e : q = p
    · subst e; rw [if_pos rfl, if_pos rfl]
    · rw [if_neg (by omega), if_neg e]; exact (h3 q hq).1
  · rw [upd_at, if_neg (by omega)]; exact (h3 q hq).2.1
  · rw [upd_at, if_neg (by omega)]; exact (h3 q hq).2.2
  · rw [upd_at, if_neg (by omega)]; exact (h4 t' ht').1
  · rw [upd_at, if_neg (by omega)]; exact (h4 t' ht').2.1
  · rw [upd_at, if_neg (by omega)]; exact (h4 t' ht').2.2.1
  · rw [upd_at, if_neg (by omega)]; exact (h4 t' ht').2.2.2.1
  · rw [upd_at, if_neg (by omega)]; exact (h4 t' ht').2.2.2.2.1
  · rw [upd_at, if_neg (by omega)]; exact (h4 t' ht').2.2.2.2.2
theorem Rel.day {u : St} {s : F32} (h : Rel u s) (x : Int32) : Rel (sDay' u x) (upd s 1 x) := by
  obtain ⟨h0, h1, h2, h3, h4⟩ := h
  refine ⟨?_, ?_, ?_, fun q hq => ⟨?_, ?_, ?_⟩, fun t' ht' => ⟨?_, ?_, ?_, ?_, ?_, ?_⟩⟩
  · rw [upd_at, if_neg (by omega)]; exact h0
  · rw [upd_at, if_pos rfl]; rfl
  · rw [upd_at, if_neg (by omega)]; exact h2
  · rw [upd_at, if_neg (by omega)]; exact (h3 q hq).1
  · rw [upd_at, if_neg (by omega)]; exact (h3 q hq).2.1
  · rw [upd_at, if_neg (by omega)]; exact (h3 q hq).2.2
  · rw [upd_at, if_neg (by omega)]; exact (h4 t' ht').1
  · rw [upd_at, if_neg (by omega)]; exact (h4 t' ht').2.1
  · rw [upd_at, if_neg (by omega)]; exact (h4 t' ht').2.2.1
  · rw [upd_at, if_neg (by omega)]; exact (h4 t' ht').2.2.2.1
  · rw [upd_at, if_neg (by omega)]; exact (h4 t' ht').2.2.2.2.1
  · rw [upd_at, if_neg (by omega)]; exact (h4 t' ht').2.2.2.2.2
theorem M_mountL {k d : Nat} {u : St} (h : WF k d u) : ∀ (i j n : Nat) (m : MS), i + j = k → i < n → Rel (foldS bodyMount j u) (mS m) → ∃ s', lX5_mount_2 n (nI j) m = some (mS' m s') ∧ Rel (foldS bodyMount k u) s' := by
  intro i
  induction i with
  | zero =>
    intro j n m hk hn hR
    obtain ⟨n, rfl⟩ : ∃ q, n = q + 1 := ⟨n - 1, by omega⟩
    have hw := foldS_wf (b := bodyMount) (fun v t hv ht => bodyMount_wf hv ht) h j (by omega)
    obtain rfl : j = k := by omega
    refine ⟨mS m, ?_, hR⟩
    rw [lX5_mount_2_eq, hR.1, hw.2.2.1, if_pos (nI_le (Nat.le_refl j) (by have := h.k8; omega))]
    rfl
  | succ i ih =>
    intro j n m hk hn hR
    obtain ⟨n, rfl⟩ : ∃ q, n = q + 1 := ⟨n - 1, by omega⟩
    have hw := foldS_wf (b := bodyMount) (fun v t hv ht => bodyMount_wf hv ht) h j (by omega)
    have hj : j < k := by omega
    have hj8 : j < 8 := by have := h.k8; omega
    have e : foldS bodyMount (j + 1) u = bodyMount (foldS bodyMount j u) j := rfl
    have ihh := fun m' => ih (j + 1) n m' (by omega) (by omega)
    rw [e] at ihh
    rw [lX5_mount_2_eq, hR.1, hw.2.2.1, if_neg (nI_ge hj (by have := h.k8; omega)), M_isThere hR hj8]
    generalize foldS bodyMount j u = v at ihh hw hR ⊢
    rw [bodyMount_def] at ihh
    simp only [Option.bind_some, b2i_0]
    cases c : thereS v j
    · rw [c] at ihh
      rw [if_pos rfl, nI_1]
      exact ihh m (by simpa using hR)
    · rw [c] at ihh
      rw [if_neg (by decide), M_spot3, Option.bind_some, M_due hR hj8]
      simp only [Option.bind_some, M_mountsOf hR hj8, M_heldTo]
      rw [if_neg (ix (by omega)), cl (by omega), nI_1]
      obtain ⟨s', e1, e2⟩ := ihh (mS' m (upd (mS m) (24 + 6 * j) (minS 999999 (sDue v j + mountS v j)))) (by rw [if_pos rfl]; exact hR.due hj8 _)
      exact ⟨s', e1, e2⟩
theorem M_mount {k d : Nat} {u : St} {m : MS} (h : WF k d u) (hR : Rel u (mS m)) : ∃ s', fX5_mount m = some (mS' m s') ∧ Rel (mountAll k u) s' := by
  rw [fX5_mount_eq]
  exact M_mountL h k 0 FU m (by omega) (by rw [FU_eq]; have := h.k8; omega) hR
theorem posS_alt (e : Int32) : posS e = if 0 ≤ e then e else 0 := by
  unfold posS
  have e0 : (0 : Int32).toInt = 0 := rfl
  by_cases h : (0 : Int32) < e
  · have := (fa_lt _ _).mp h
    rw [if_pos h, if_pos ((fa_le _ _).mpr (by omega))]
  · have h1 : ¬ (0 : Int32).toInt < e.toInt := fun z => h ((fa_lt _ _).mpr z)
    rw [if_neg h]
    split
    · rename_i h2
      have := (fa_le _ _).mp h2
      exact (fa_eq _ _).mpr (by omega)
    · rfl
theorem M_earnL {u : St} : ∀ (i j n : Nat) (m : MS), i + j = 6 → i < n → Rel (foldS bodyEarn j u) (mS m) → ∃ s', lX5_earn_2 n (nI j) m = some (mS' m s') ∧ Rel (foldS bodyEarn 6 u) s' := by
  intro i
  induction i with
  | zero =>
    intro j n m hk hn hR
    obtain ⟨n, rfl⟩ : ∃ q, n = q + 1 := ⟨n - 1, by omega⟩
    obtain rfl : j = 6 := by omega
    exact ⟨mS m, by rw [lX5_earn_2_eq, if_pos (by decide)]; rfl, hR⟩
  | succ i ih =>
    intro j n m hk hn hR
    obtain ⟨n, rfl⟩ : ∃ q, n = q + 1 := ⟨n - 1, by omega⟩
    have hj : j < 6 := by omega
    have ihh := fun m' => ih (j + 1) n m' (by omega) (by omega)
    have e : foldS bodyEarn (j + 1) u = bodyEarn (foldS bodyEarn j u) j := rfl
    rw [e] at ihh
    rw [lX5_earn_2_eq, if_neg (by rw [show (6 : Int32) = nI 6 from rfl]; exact nI_ge hj (by decide))]
    generalize foldS bodyEarn j u = v at ihh hR ⊢
    simp only [M_means hR hj, M_earns hR hj, M_spends hR hj, M_heldTo, Option.bind_some, nI_1]
    rw [M_place0, Option.bind_some]
    simp only [if_neg (ix' (show 3 + 3 * j < 69 by omega)), cl (show 3 + 3 * j < 2 ^ 31 by omega)]
    rw [bodyEarn_def, posS_alt] at ihh
    split
    · rename_i c
      rw [if_pos c] at ihh
      obtain ⟨s', e1, e2⟩ := ihh (mS' m (upd (mS m) (3 + 3 * j) (minS 999999 (sMns v j + sErn v j) - sSpd v j))) (hR.mns hj _)
      exact ⟨s', e1, e2⟩
    · rename_i c
      rw [if_neg c] at ihh
      obtain ⟨s', e1, e2⟩ := ihh (mS' m (upd (mS m) (3 + 3 * j) 0)) (hR.mns hj _)
      exact ⟨s', e1, e2⟩
theorem M_earn {u : St} {m : MS} (hR : Rel u (mS m)) : ∃ s', fX5_earn m = some (mS' m s') ∧ Rel (earnAll u) s' := by
  rw [fX5_earn_eq]
  exact M_earnL 6 0 FU m (by omega) (by rw [FU_eq]; omega) hR
-- calls, person by person
def cpF (p : Nat) (v : St) : Nat → Nat → St
  | 0, _ => v
  | i + 1, j => if sLbl v j = nI p ∧ canS v j = true then handS v j (lbN v j) (sDue v j) else cpF p v i (j + 1)
theorem cpF_wf {k d p : Nat} {v : St} (h : WF k d v) : ∀ i j, i + j ≤ k → WF k d (cpF p v i j)
  | 0, _, _ => h
  | i + 1, j, hk => by
    unfold cpF
    split
    · rename_i c
      exact call_wf h (by omega) c.2
    · exact cpF_wf h i (j + 1) (by omega)
theorem M_callsForL {k d p : Nat} {v : St} (h : WF k d v) : ∀ (i j n : Nat) (m : MS), i + j = k → i < n → Rel v (mS m) → ∃ s', lX5_callsFor_2 n (nI p) (nI j) m = some (mS' m s') ∧ Rel (cpF p v i j) s' := by
  intro i
  induction i with
  | zero =>
    intro j n m hk hn hR
    obtain ⟨n, rfl⟩ : ∃ q, n = q + 1 := ⟨n - 1, by omega⟩
    obtain rfl : j = k := by omega
    refine ⟨mS m, ?_, hR⟩
    rw [lX5_callsFor_2_eq, hR.1, h.2.2.1, if_pos (nI_le (Nat.le_refl j) (by have := h.k8; omega))]
    rfl
  | succ i ih =>
    intro j n m hk hn hR
    obtain ⟨n, rfl⟩ : ∃ q, n = q + 1 := ⟨n - 1, by omega⟩
    have hj : j < k := by omega
    have hj8 : j < 8 := by have := h.k8; omega
    have hl := h.lb hj
    have ihh := ih (j + 1) n m (by omega) (by omega) hR
    rw [lX5_callsFor_2_eq, hR.1, h.2.2.1, if_neg (nI_ge hj (by have := h.k8; omega)), M_lbl hR hj8]
    simp only [Option.bind_some, M_mayCall hR hj8 hl, b2i_0, nI_1]
    unfold cpF
    by_cases c1 : sLbl v j = nI p
    · rw [if_pos c1]
      cases c2 : canS v j
      · rw [if_pos rfl, if_neg (fun z => by cases z.2)]
        exact ihh
      · rw [if_neg (by decide), if_pos ⟨c1, rfl⟩]
        obtain ⟨s', e1, e2⟩ := M_calls hR hj8 hl
        exact ⟨s', by rw [e1]; rfl, e2⟩
    · rw [if_neg c1, if_neg (fun z => c1 z.1)]
      exact ihh
theorem M_callsFor {k d p : Nat} {v : St} {m : MS} (h : WF k d v) (hR : Rel v (mS m)) : ∃ s', fX5_callsFor (nI p) m = some (mS' m s') ∧ Rel (cpF p v k 0) s' := by
  rw [fX5_callsFor_eq]
  exact M_callsForL h k 0 FU m (by omega) (by rw [FU_eq]; have := h.k8; omega) hR
def calM (k : Nat) : Nat → St → St
  | 0, u => u
  | p + 1, u => cpF p (calM k p u) k 0
theorem calM_wf {k d : Nat} {u : St} (h : WF k d u) : ∀ p, WF k d (calM k p u)
  | 0 => h
  | p + 1 => cpF_wf (calM_wf h p) k 0 (by omega)
-- the sale
theorem M_offL {k d : Nat} {v : St} {t : Nat} (h : WF k d v) (ht : t < 8) : ∀ (i j n : Nat) (m : MS), i + j = 6 → i < n → Rel v (mS m) → ∃ s', lX5_isOffered_7 n (nI t) (hbF v t j).1 (hbF v t j).2 (nI j) m = some (mS' m s') ∧ Rel (if (hbF v t 6).1 < 0 then v else handS v t (hbF v t 6).1.toNatClampNeg (hbF v t 6).2) s' := by
  intro i
  induction i with
  | zero =>
    intro j n m hk hn hR
    obtain ⟨n, rfl⟩ : ∃ q, n = q + 1 := ⟨n - 1, by omega⟩
    obtain rfl : j = 6 := by omega
    rw [lX5_isOffered_7_eq, if_pos (by decide)]
    obtain ⟨h0, h1⟩ := hb_who (u := v) (t := t) 6
    rcases h1 with h1 | ⟨q, a, b, e⟩
    · rw [h1, if_pos (by decide), if_pos (by decide)]
      exact ⟨mS m, rfl, hR⟩
    · rw [b, if_neg (nI_pos (by omega)), if_neg (nI_pos (by omega)), cl (by omega)]
      obtain ⟨s', e1, e2⟩ := M_comesTo (x := (hbF v t 6).2) hR ht a
      exact ⟨s', by rw [e1]; rfl, e2⟩
  | succ i ih =>
    intro j n m hk hn hR
    obtain ⟨n, rfl⟩ : ∃ q, n = q + 1 := ⟨n - 1, by omega⟩
    have hj : j < 6 := by omega
    have ihh := ih (j + 1) n m (by omega) (by omega) hR
    have e : hbF v t (j + 1) = if offS v t j ≤ (hbF v t j).2 then hbF v t j else (nI j, offS v t j) := rfl
    rw [e] at ihh
    unfold offS at ihh
    rw [lX5_isOffered_7_eq, if_neg (by rw [show (6 : Int32) = nI 6 from rfl]; exact nI_ge hj (by decide)), M_lbl hR ht]
    simp only [Option.bind_some, M_bidOf hR ht hj (h.p hj).1, nI_1]
    by_cases c1 : nI j = sLbl v t
    · rw [if_pos c1] at ihh ⊢
      by_cases c2 : (0 : Int32) ≤ (hbF v t j).2
      · rw [if_pos c2] at ihh
        rw [if_pos c2, if_pos c2]; exact ihh
      · rw [if_neg c2] at ihh
        rw [if_neg c2, if_neg c2]; exact ihh
    · rw [if_neg c1] at ihh ⊢
      by_cases c2 : bidS v t j ≤ (hbF v t j).2
      · rw [if_pos c2] at ihh
        rw [if_pos c2, if_pos c2]; exact ihh
      · rw [if_neg c2] at ihh
        rw [if_neg c2, if_neg c2]; exact ihh
theorem M_saleL {k d : Nat} {u : St} (h : WF k d u) (hd7 : (sDay u - sDay u / 7 * 7) = 0) : ∀ (i j n : Nat) (m : MS), i + j = k → i < n → sDay (foldS bodySale j u) = sDay u → Rel (foldS bodySale j u) (mS m) → ∃ s', lX5_day_39 n (nI j) m = some (mS' m s') ∧ Rel (foldS bodySale k u) s' := by
  intro i
  induction i with
  | zero =>
    intro j n m hk hn hdy hR
    obtain ⟨n, rfl⟩ : ∃ q, n = q + 1 := ⟨n - 1, by omega⟩
    have hw := foldS_wf (b := bodySale) (N := k) (fun v t hv ht => bodySale_wf hv) h j (by omega)
    obtain rfl : j = k := by omega
    refine ⟨mS m, ?_, hR⟩
    rw [lX5_day_39_eq, hR.1, hw.2.2.1, if_pos (nI_le (Nat.le_refl j) (by have := h.k8; omega))]
    rfl
  | succ i ih =>
    intro j n m hk hn hdy hR
    obtain ⟨n, rfl⟩ : ∃ q, n = q + 1 := ⟨n - 1, by omega⟩
    have hw := foldS_wf (b := bodySale) (N := k) (fun v t hv ht => bodySale_wf hv) h j (by omega)
    have hj : j < k := by omega
    have hj8 : j < 8 := by have := h.k8; omega
    have e : foldS bodySale (j + 1) u = bodySale (foldS bodySale j u) j := rfl
    have ihh := fun m' => ih (j + 1) n m' (by omega) (by omega)
    rw [e] at ihh
    rw [lX5_day_39_eq, hR.1, hw.2.2.1, if_neg (nI_ge hj (by have := h.k8; omega)), hR.2.1, hdy, if_pos hd7, M_isThere hR hj8]
    generalize foldS bodySale j u = v at ihh hw hR hdy ⊢
    have hdy2 : sDay (bodySale v j) = sDay u := by
      rw [bodySale_def]
      split
      · split
        · exact hdy
        · rw [hand_day]; exact hdy
      · exact hdy
    simp only [Option.bind_some, b2i_0, M_maySell hR hj8, nI_1]
    have ihh2 := fun m' => ihh m' hdy2
    rw [bodySale_def] at ihh2
    cases c1 : thereS v j
    · rw [c1] at ihh2
      rw [if_pos rfl]
      exact ihh2 m (by simpa using hR)
    · cases c2 : sellS v j
      · rw [c1, c2] at ihh2
        rw [if_neg (by decide), if_pos rfl]
        exact ihh2 m (by simpa using hR)
      · rw [c1, c2] at ihh2
        rw [if_neg (by decide), if_neg (by decide), fX5_isOffered_eq]
        obtain ⟨s1, e1, e2⟩ := M_offL hw hj8 6 0 FU m (by omega) (by rw [FU_eq]; omega) hR
        rw [show lX5_isOffered_7 FU (nI j) (-1) 0 0 m = some (mS' m s1) from e1, Option.bind_some]
        rw [show (true && true) = true from rfl, if_pos rfl] at ihh2
        obtain ⟨s', e3, e4⟩ := ihh2 (mS' m s1) e2
        exact ⟨s', e3, e4⟩
def dayM (k : Nat) (u : St) : St :=
  if ((sDay (calM k 6 (earnAll (mountAll k u))) + 1) - (sDay (calM k 6 (earnAll (mountAll k u))) + 1) / 7 * 7) = 0 then saleAll k (sDay' (calM k 6 (earnAll (mountAll k u))) (sDay (calM k 6 (earnAll (mountAll k u))) + 1)) else sDay' (calM k 6 (earnAll (mountAll k u))) (sDay (calM k 6 (earnAll (mountAll k u))) + 1)
theorem M_day2 {k d : Nat} {v : St} {m : MS} {n : Nat} (h : WF k d v) (hn : k < n) (hR : Rel v (mS m)) : ∃ s', lX5_day_39 n 0 m = some (mS' m s') ∧ Rel (if (sDay v - sDay v / 7 * 7) = 0 then saleAll k v else v) s' := by
  by_cases c : (sDay v - sDay v / 7 * 7) = 0
  · rw [if_pos c]
    exact M_saleL h c k 0 n m (by omega) hn rfl hR
  · rw [if_neg c]
    obtain ⟨n, rfl⟩ : ∃ q, n = q + 1 := ⟨n - 1, by omega⟩
    refine ⟨mS m, ?_, hR⟩
    rw [lX5_day_39_eq, hR.2.1, if_neg c]
    split <;> rfl
theorem M_day1 {k d : Nat} {v : St} (h : WF k d v) (hd : d < 20000) : ∀ (i j n : Nat) (m : MS), i + j = 6 → i + 10 < n → Rel (calM k j v) (mS m) → ∃ s', lX5_day_10 n (nI j) m = some (mS' m s') ∧ Rel (if ((sDay (calM k 6 v) + 1) - (sDay (calM k 6 v) + 1) / 7 * 7) = 0 then saleAll k (sDay' (calM k 6 v) (sDay (calM k 6 v) + 1)) else sDay' (calM k 6 v) (sDay (calM k 6 v) + 1)) s' := by
  intro i
  induction i with
  | zero =>
    intro j n m hk hn hR
    obtain ⟨n, rfl⟩ : ∃ q, n = q + 1 := ⟨n - 1, by omega⟩
    obtain rfl : j = 6 := by omega
    rw [lX5_day_10_eq, if_pos (by decide), hR.2.1]
    have hw := (calM_wf h 6).next hd
    obtain ⟨s', e1, e2⟩ := M_day2 (m := mS' m (upd (mS m) 1 (sDay (calM k 6 v) + 1))) (n := n) hw (by have := h.k8; omega) (hR.day _)
    exact ⟨s', e1, e2⟩
  | succ i ih =>
    intro j n m hk hn hR
    obtain ⟨n, rfl⟩ : ∃ q, n = q + 1 := ⟨n - 1, by omega⟩
    have hj : j < 6 := by omega
    rw [lX5_day_10_eq, if_neg (by rw [show (6 : Int32) = nI 6 from rfl]; exact nI_ge hj (by decide))]
    obtain ⟨s1, e1, e2⟩ := M_callsFor (p := j) (calM_wf h j) hR
    rw [e1, Option.bind_some, nI_1]
    obtain ⟨s', e3, e4⟩ := ih (j + 1) n (mS' m s1) (by omega) (by omega) e2
    exact ⟨s', e3, e4⟩
theorem M_day {k d : Nat} {u : St} {m : MS} (h : WF k d u) (hd : d < 20000) (hR : Rel u (mS m)) : ∃ s', fX5_day m = some (mS' m s') ∧ Rel (dayM k u) s' := by
  rw [fX5_day_eq]
  obtain ⟨s1, e1, e2⟩ := M_mount h hR
  rw [e1, Option.bind_some]
  obtain ⟨s2, e3, e4⟩ := M_earn (m := mS' m s1) e2
  rw [e3, Option.bind_some]
  obtain ⟨s', e5, e6⟩ := M_day1 (earnAll_wf (mountAll_wf h)) hd 6 0 FU (mS' (mS' m s1) s2) (by omega) (by rw [FU_eq]; omega) e4
  exact ⟨s', e5, e6⟩
