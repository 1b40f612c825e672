-- WHAT HOLDS IN EACH STATION, KEPT
theorem WF.t {k d : Nat} {u : St} (h : WF k d u) {t : Nat} (ht : t < k) : WFt d u t := h.2.2.2.2.2.2 t ht
theorem WF.p {k d : Nat} {u : St} (h : WF k d u) {p : Nat} (hp : p < 6) : WFp u p := h.2.2.2.2.2.1 p hp
theorem WF.k8 {k d : Nat} {u : St} (h : WF k d u) : k ≤ 8 := h.1
theorem min_in {a b : Int32} {N : Nat} (ha : In a N) (hb : 0 ≤ b.toInt) (hN : N < 2 ^ 31) : In (minS a b) N := by
  unfold minS
  have h1 := ha.int hN
  split
  · rename_i h
    have := (fa_lt b a).mp h
    exact in_of hb (by omega) hN
  · exact ha
theorem mount_in {k d : Nat} {u : St} (h : WF k d u) {t : Nat} (ht : t < k) : In (mountS u t) 3000 := by
  obtain ⟨h1, h2, h3, h4, h5, h6⟩ := h.t ht
  obtain ⟨a, ha, ea⟩ := h3
  obtain ⟨w, hw, ew⟩ := h5
  have hd := h.2.1
  unfold mountS
  rw [h.2.2.2.1, ea, pk_sub ha, ew]
  have e1 : nI w / 100 = nI (w / 100) := pk_div (by omega) (by decide) (by decide)
  have e2 : nI (d - a) / 10 = nI ((d - a) / 10) := pk_div (by omega) (by decide) (by decide)
  split
  · exact ⟨6, by omega, rfl⟩
  · split
    · split
      · exact ⟨1, by omega, rfl⟩
      · exact ⟨0, by omega, rfl⟩
    · split
      · rw [e1, show (2 : Int32) = nI 2 from rfl, nI_add]
        exact ⟨_, by omega, rfl⟩
      · split
        · rw [e2, show (6 : Int32) = nI 6 from rfl, nI_add]
          exact ⟨_, by omega, rfl⟩
        · split
          · split
            · exact ⟨2, by omega, rfl⟩
            · exact ⟨1, by omega, rfl⟩
          · exact ⟨2, by omega, rfl⟩
theorem WF.due {k d : Nat} {u : St} (h : WF k d u) {t : Nat} {x : Int32} (hx : In x 999999) : WF k d (sDue' u (upd (sDue u) t x)) := by
  obtain ⟨h1, h2, h3, h4, h5, h6, h7⟩ := h
  refine ⟨h1, h2, h3, h4, h5, h6, fun t' ht' => ?_⟩
  obtain ⟨g1, g2, g3, g4, g5⟩ := h7 t' ht'
  refine ⟨g1, g2, g3, ?_, g5⟩
  show In (upd (sDue u) t x t') _
  unfold upd
  split
  · exact hx
  · exact g4
def bodyMount (v : St) (j : Nat) : St := if thereS v j = true then sDue' v (upd (sDue v) j (minS 999999 (sDue v j + mountS v j))) else v
theorem bodyMount_def (v : St) (j : Nat) : bodyMount v j = if thereS v j = true then sDue' v (upd (sDue v) j (minS 999999 (sDue v j + mountS v j))) else v := rfl
theorem bodyMount_wf {k d : Nat} {u : St} (h : WF k d u) {t : Nat} (ht : t < k) : WF k d (bodyMount u t) := by
  unfold bodyMount
  split
  · refine h.due (min_in ⟨999999, Nat.le_refl _, rfl⟩ ?_ (by decide))
    have h1 := (h.t ht).2.2.2.1.int (by decide)
    have h2 := (mount_in h ht).int (by decide)
    rw [add_int (by omega) (by omega)]
    omega
  · exact h
def foldS (b : St → Nat → St) : Nat → St → St
  | 0, u => u
  | j + 1, u => b (foldS b j u) j
theorem foldS_wf {b : St → Nat → St} {k d N : Nat} {u : St} (hb : ∀ v t, WF k d v → t < N → WF k d (b v t)) (h : WF k d u) : ∀ j, j ≤ N → WF k d (foldS b j u)
  | 0, _ => h
  | j + 1, hj => hb _ j (foldS_wf hb h j (by omega)) (by omega)
theorem X_mountL {k d : Nat} {u : St} (h : WF k d u) : ∀ (i j n : Nat), i + j = k → i < n → lX1_mountAll_2 n (nI j) (foldS bodyMount j u) = some (foldS bodyMount k u) := by
  intro i
  induction i with
  | zero =>
    intro j n hk hn
    obtain ⟨n, rfl⟩ : ∃ q, n = q + 1 := ⟨n - 1, by omega⟩
    have hw := foldS_wf (b := bodyMount) (fun v t hv ht => bodyMount_wf hv ht) h j (by omega)
    rw [lX1_mountAll_2_eq, hw.2.2.1, if_pos (nI_le (by omega) (by have := h.k8; omega)), show j = k by omega]
  | succ i ih =>
    intro j n hk hn
    obtain ⟨n, rfl⟩ : ∃ q, n = q + 1 := ⟨n - 1, by omega⟩
    have hw := foldS_wf (b := bodyMount) (fun v t hv ht => bodyMount_wf hv ht) h j (by omega)
    have hj : j < k := by omega
    have hj8 : j < 8 := by have := h.k8; omega
    rw [lX1_mountAll_2_eq, hw.2.2.1, if_neg (nI_ge hj (by have := h.k8; omega)), X_isThere hj8]
    simp only [Option.bind_some, b2i_0, X_mountOf hj8, if_neg (ix' hj8), cl (show j < 2 ^ 31 by omega), nI_1]
    have ihh := ih (j + 1) n (by omega) (by omega)
    have e : foldS bodyMount (j + 1) u = bodyMount (foldS bodyMount j u) j := rfl
    rw [e] at ihh
    rw [bodyMount_def] at ihh
    cases hc : thereS (foldS bodyMount j u) j
    · rw [hc] at ihh
      simpa using ihh
    · rw [hc, if_pos rfl] at ihh
      rw [if_neg (by decide)]
      exact ihh
def mountAll (k : Nat) (u : St) : St := foldS bodyMount k u
theorem X_mountAll {k d : Nat} {u : St} (h : WF k d u) : fX1_mountAll u = some (mountAll k u) := by
  rw [fX1_mountAll_eq]
  exact X_mountL h k 0 FU (by omega) (by rw [FU_eq]; have := h.k8; omega)
theorem mountAll_wf {k d : Nat} {u : St} (h : WF k d u) : WF k d (mountAll k u) := foldS_wf (fun v t hv ht => bodyMount_wf hv ht) h k (Nat.le_refl k)
-- means
def posS (e : Int32) : Int32 := if 0 < e then e else 0
def bodyEarn (v : St) (p : Nat) : St := sMns' v (upd (sMns v) p (posS (minS 999999 (sMns v p + sErn v p) - sSpd v p)))
theorem bodyEarn_def (v : St) (p : Nat) : bodyEarn v p = sMns' v (upd (sMns v) p (posS (minS 999999 (sMns v p + sErn v p) - sSpd v p))) := rfl
theorem WF.mns {k d : Nat} {u : St} (h : WF k d u) {p : Nat} {x : Int32} (hx : In x 999999) : WF k d (sMns' u (upd (sMns u) p x)) := by
  obtain ⟨h1, h2, h3, h4, h5, h6, h7⟩ := h
  refine ⟨h1, h2, h3, h4, h5, fun q hq => ?_, h7⟩
  obtain ⟨g1, g2⟩ := h6 q hq
  refine ⟨?_, g2⟩
  show In (upd (sMns u) p x q) _
  unfold upd
  split
  · exact hx
  · exact g1
theorem bodyEarn_wf {k d : Nat} {u : St} (h : WF k d u) {p : Nat} (hp : p < 6) : WF k d (bodyEarn u p) := by
  refine h.mns ?_
  obtain ⟨h1, h2, h3⟩ := h.p hp
  have g1 := h1.int (by decide)
  have g2 := h2.int (by decide)
  have g3 := h3.int (by decide)
  have e1 : (sMns u p + sErn u p).toInt = (sMns u p).toInt + (sErn u p).toInt := add_int (by omega) (by omega)
  have g4 := (min_in (a := 999999) (b := sMns u p + sErn u p) ⟨999999, Nat.le_refl _, rfl⟩ (by omega) (by decide)).int (by decide)
  have e2 : (minS 999999 (sMns u p + sErn u p) - sSpd u p).toInt = (minS 999999 (sMns u p + sErn u p)).toInt - (sSpd u p).toInt := sub_int (by omega) (by omega)
  unfold posS
  split
  · rename_i hc
    have hc := (fa_lt _ _).mp hc
    have e0 : (0 : Int32).toInt = 0 := rfl
    exact in_of (by omega) (by omega) (by decide)
  · exact ⟨0, by omega, rfl⟩
theorem X_earnL {u : St} : ∀ (i j n : Nat), i + j = 6 → i < n → lX1_earnAndSpend_2 n (nI j) (foldS bodyEarn j u) = some (foldS bodyEarn 6 u) := by
  intro i
  induction i with
  | zero =>
    intro j n hk hn
    obtain ⟨n, rfl⟩ : ∃ q, n = q + 1 := ⟨n - 1, by omega⟩
    obtain rfl : j = 6 := by omega
    rw [lX1_earnAndSpend_2_eq, if_pos (by decide)]
  | succ i ih =>
    intro j n hk hn
    obtain ⟨n, rfl⟩ : ∃ q, n = q + 1 := ⟨n - 1, by omega⟩
    have hj : j < 6 := by omega
    rw [lX1_earnAndSpend_2_eq, if_neg (by rw [show (6 : Int32) = nI 6 from rfl]; exact nI_ge hj (by decide))]
    simp only [if_neg (ix' hj), cl (show j < 2 ^ 31 by omega), nI_1]
    exact ih (j + 1) n (by omega) (by omega)
def earnAll (u : St) : St := foldS bodyEarn 6 u
theorem X_earnAll {u : St} : fX1_earnAndSpend u = some (earnAll u) := by
  rw [fX1_earnAndSpend_eq]
  exact X_earnL 6 0 FU (by omega) (by rw [FU_eq]; omega)
theorem earnAll_wf {k d : Nat} {u : St} (h : WF k d u) : WF k d (earnAll u) := foldS_wf (N := 6) (fun v t hv ht => bodyEarn_wf hv ht) h 6 (Nat.le_refl 6)
-- who pays
theorem hand_wf {k d : Nat} {u : St} (h : WF k d u) {t p : Nat} {x : Int32} (hp : p < 6) (hx : 0 ≤ x.toInt) (hm : x.toInt ≤ (sMns u p).toInt) : WF k d (handS u t p x) := by
  have hm1 := (h.p hp).1.int (by decide)
  have ht1 := h.2.2.2.2.1.int (by decide)
  obtain ⟨h1, h2, h3, h4, h5, h6, h7⟩ := h
  refine ⟨h1, h2, h3, h4, ?_, fun q hq => ?_, fun t' ht' => ?_⟩
  · show In (minS 99999999 (sTkn u + x)) _
    refine min_in ⟨99999999, Nat.le_refl _, rfl⟩ ?_ (by decide)
    rw [add_int (by omega) (by omega)]
    omega
  · obtain ⟨g1, g2⟩ := h6 q hq
    refine ⟨?_, g2⟩
    show In (upd (sMns u) p (sMns u p - x) q) _
    unfold upd
    split
    · have e := sub_int (x := sMns u p) (y := x) (by omega) (by omega)
      exact in_of (by omega) (by omega) (by decide)
    · exact g1
  · obtain ⟨g1, g2, g3, g4, g5, g6⟩ := h7 t' ht'
    refine ⟨g1, ?_, g3, ?_, g5, ?_⟩
    · show In (upd (sLbl u) t (nI p) t') _
      unfold upd
      split
      · exact in_nI (by omega)
      · exact g2
    · show In (upd (sDue u) t 0 t') _
      unfold upd
      split
      · exact ⟨0, by omega, rfl⟩
      · exact g4
    · show upd (sWit u) t (nI p) t' = -1 ∨ In (upd (sWit u) t (nI p) t') _
      unfold upd
      split
      · exact Or.inr (in_nI (by omega))
      · exact g6
theorem can_le {u : St} {t : Nat} (h : canS u t = true) : (sDue u t).toInt ≤ (sMns u (lbN u t)).toInt := by
  unfold canS at h
  simp only [Bool.and_eq_true, decide_eq_true_eq] at h
  have := h.2
  rw [fa_lt] at this
  omega
theorem call_wf {k d : Nat} {u : St} (h : WF k d u) {t : Nat} (ht : t < k) (hc : canS u t = true) : WF k d (handS u t (lbN u t) (sDue u t)) :=
  hand_wf h (h.lb ht).1 ((h.t ht).2.2.2.1.int (by decide)).1 (can_le hc)
