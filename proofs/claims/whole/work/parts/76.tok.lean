-- THE TEXT: tokens
def tkC (b : Nat) : Nat := if 97 ≤ b ∧ b ≤ 122 then 1 else if 48 ≤ b ∧ b ≤ 57 then 2 else if b = 59 then 3 else 4
def tk (n : Nat) (B : Nat → Nat) (i : Nat) : Nat := if i < n then tkC (B i) else 0
def TC (n : Nat) (B : Nat → Nat) (t : Tp) (m : MS) : Prop := n ≤ 120 ∧ tLen t = nI n ∧ mTpd m = nI n ∧ ∀ i, i < n → B i ≤ 255 ∧ mTape m i = nI (B i) ∧ tByt t i = (nI (B i)).toInt8.toInt32
def tkE (y : Int32) : Int32 := if y < 97 then (if y < 48 then (if y = 59 then 3 else 4) else (if 57 < y then (if y = 59 then 3 else 4) else 2)) else (if 122 < y then (if y < 48 then (if y = 59 then 3 else 4) else (if 57 < y then (if y = 59 then 3 else 4) else 2)) else 1)
theorem tkE_all : ∀ b : Fin 256, tkE (nI b.val).toInt8.toInt32 = nI (tkC b.val) := by decide +kernel
theorem byt_all : ∀ b : Fin 256, ((nI b.val).toInt8.toInt32).toInt = (if b.val < 128 then (b.val : Int) else (b.val : Int) - 256) := by decide +kernel
theorem byt_eq {b c : Nat} (hb : b ≤ 255) (hc : c < 128) : (nI b).toInt8.toInt32 = nI c ↔ b = c := by
  rw [fa_eq, byt_all ⟨b, by omega⟩, nI_toInt (by omega)]
  show (if b < 128 then (b : Int) else (b : Int) - 256) = (c : Int) ↔ b = c
  split <;> constructor <;> intro h <;> omega
theorem byt_lo {b : Nat} (hb : b < 128) : (nI b).toInt8.toInt32 = nI b := (byt_eq (by omega) hb).mpr rfl
theorem X_tokenAt {n : Nat} {B : Nat → Nat} {u : TT} {m : MS} (h : TC n B (ttP u) m) {i : Nat} (hi : i ≤ n) : fX3_tokenAt (nI i) u = some (nI (tk n B i), u) := by
  obtain ⟨h1, h2, h3, h4⟩ := h
  rw [fX3_tokenAt_eq, h2]
  unfold tk
  by_cases c : i < n
  · obtain ⟨g1, g2, g3⟩ := h4 i c
    have e := tkE_all ⟨B i, by omega⟩
    rw [if_pos (nI_lt c (by omega)), if_neg (ix (show i < 120 by omega)), cl (by omega), g3, if_pos c]
    have e2 : (some (nI (tkC (B i)), u) : Option (Int32 × TT)) = some (tkE (nI (B i)).toInt8.toInt32, u) := by rw [e]
    rw [e2]
    generalize (nI (B i)).toInt8.toInt32 = y
    unfold tkE
    by_cases c1 : y < 97
    · rw [if_pos c1, if_pos c1]
      by_cases c2 : y < 48
      · rw [if_pos c2, if_pos c2]
        by_cases c3 : y = 59
        · rw [if_pos c3, if_pos c3]
        · rw [if_neg c3, if_neg c3]
      · rw [if_neg c2, if_neg c2]
        by_cases c3 : 57 < y
        · rw [if_pos c3, if_pos c3]
          by_cases c4 : y = 59
          · rw [if_pos c4, if_pos c4]
          · rw [if_neg c4, if_neg c4]
        · rw [if_neg c3, if_neg c3]
    · rw [if_neg c1, if_neg c1]
      by_cases c0 : 122 < y
      · rw [if_pos c0, if_pos c0]
        by_cases c2 : y < 48
        · rw [if_pos c2, if_pos c2]
          by_cases c3 : y = 59
          · rw [if_pos c3, if_pos c3]
          · rw [if_neg c3, if_neg c3]
        · rw [if_neg c2, if_neg c2]
          by_cases c3 : 57 < y
          · rw [if_pos c3, if_pos c3]
            by_cases c4 : y = 59
            · rw [if_pos c4, if_pos c4]
            · rw [if_neg c4, if_neg c4]
          · rw [if_neg c3, if_neg c3]
      · rw [if_neg c0, if_neg c0]
  · rw [if_neg (nI_nlt (by omega) (by omega)), if_neg c]
    rfl
def btM (n : Nat) (B : Nat → Nat) (i : Nat) : Int32 := if i < n then nI (B i) else -1
theorem M_byteAt {n : Nat} {B : Nat → Nat} {t : Tp} {m : MS} (h : TC n B t m) {i : Nat} (hi : i < 2 ^ 31) : fX5_byteAt (nI i) m = some (btM n B i, m) := by
  obtain ⟨h1, h2, h3, h4⟩ := h
  rw [fX5_byteAt_eq, h3]
  unfold btM
  by_cases c : i < n
  · rw [if_neg (nI_ge c (by omega)), if_neg (ix (show i < 120 by omega)), cl (by omega), (h4 i c).2.1, if_pos c]
  · rw [if_pos (nI_le (by omega) hi), if_neg c]
theorem M_isLetter (a : Int32) : fX5_isLetter a = some (b2i (inB a 97 122)) := by
  rw [fX5_isLetter_eq, M_in, Option.bind_some, if_pos (b2i_ok _)]
  rfl
theorem M_isDigit (a : Int32) : fX5_isDigit a = some (b2i (inB a 48 57)) := by
  rw [fX5_isDigit_eq, M_in, Option.bind_some, if_pos (b2i_ok _)]
  rfl
theorem bt_int {n : Nat} {B : Nat → Nat} {i : Nat} (h : i < n → B i ≤ 255) : (btM n B i).toInt = if i < n then (B i : Int) else -1 := by
  unfold btM
  by_cases c : i < n
  · rw [if_pos c, if_pos c, nI_toInt (by have := h c; omega)]
  · rw [if_neg c, if_neg c]; rfl
theorem bt_letter {n : Nat} {B : Nat → Nat} {i : Nat} (h : i < n → B i ≤ 255) : inB (btM n B i) 97 122 = decide (tk n B i = 1) := by
  unfold inB tk tkC
  rw [bt_int h]
  by_cases c : i < n
  · rw [if_pos c, if_pos c]
    by_cases c1 : 97 ≤ B i ∧ B i ≤ 122
    · rw [if_pos c1, decide_eq_true (by omega), decide_eq_true rfl]
    · rw [if_neg c1, decide_eq_false (by omega), decide_eq_false]
      split
      · decide
      · split <;> decide
  · rw [if_neg c, if_neg c]; decide
theorem bt_digit {n : Nat} {B : Nat → Nat} {i : Nat} (h : i < n → B i ≤ 255) : inB (btM n B i) 48 57 = decide (tk n B i = 2) := by
  unfold inB tk tkC
  rw [bt_int h]
  by_cases c : i < n
  · rw [if_pos c, if_pos c]
    by_cases c1 : 97 ≤ B i ∧ B i ≤ 122
    · rw [if_pos c1, decide_eq_false (by omega)]; decide
    · rw [if_neg c1]
      by_cases c2 : 48 ≤ B i ∧ B i ≤ 57
      · rw [if_pos c2, decide_eq_true (by omega)]; decide
      · rw [if_neg c2, decide_eq_false (by omega), decide_eq_false]
        split <;> decide
  · rw [if_neg c, if_neg c]; decide
theorem bt_is {n : Nat} {B : Nat → Nat} {i c : Nat} (h : i < n → B i ≤ 255) (hc : c < 256) : btM n B i = nI c ↔ i < n ∧ B i = c := by
  rw [fa_eq, bt_int h, nI_toInt (by omega)]
  by_cases q : i < n
  · rw [if_pos q]
    constructor
    · intro z; exact ⟨q, by omega⟩
    · intro z; omega
  · rw [if_neg q]
    constructor
    · intro z; omega
    · intro z; exact absurd z.1 q
theorem tk_digit {n : Nat} {B : Nat → Nat} {i : Nat} (h : tk n B i = 2) : i < n ∧ 48 ≤ B i ∧ B i ≤ 57 := by
  unfold tk tkC at h
  split at h
  · rename_i c
    split at h
    · cases h
    · split at h
      · rename_i c2; exact ⟨c, c2⟩
      · split at h <;> cases h
  · cases h
theorem tk_letter {n : Nat} {B : Nat → Nat} {i : Nat} (h : tk n B i = 1) : i < n ∧ 97 ≤ B i ∧ B i ≤ 122 := by
  unfold tk tkC at h
  split at h
  · rename_i c
    split at h
    · rename_i c2; exact ⟨c, c2⟩
    · split at h
      · cases h
      · split at h <;> cases h
  · cases h
theorem tk_lt {n : Nat} {B : Nat → Nat} {i : Nat} : tk n B i < 5 := by
  unfold tk tkC
  split
  · split
    · omega
    · split
      · omega
      · split <;> omega
  · omega
theorem tk_0 {n : Nat} {B : Nat → Nat} {i : Nat} : tk n B i = 0 ↔ n ≤ i := by
  unfold tk tkC
  by_cases c : i < n
  · rw [if_pos c]
    constructor
    · intro z
      split at z
      · cases z
      · split at z
        · cases z
        · split at z <;> cases z
    · intro z; omega
  · rw [if_neg c]
    exact ⟨fun _ => by omega, fun _ => rfl⟩
theorem tk_3 {n : Nat} {B : Nat → Nat} {i : Nat} : tk n B i = 3 ↔ i < n ∧ B i = 59 := by
  unfold tk tkC
  by_cases c : i < n
  · rw [if_pos c]
    constructor
    · intro z
      split at z
      · cases z
      · split at z
        · cases z
        · split at z
          · rename_i c2; exact ⟨c, c2⟩
          · cases z
    · rintro ⟨_, z⟩
      rw [if_neg (by omega), if_neg (by omega), if_pos z]
  · rw [if_neg c]
    constructor
    · intro z; cases z
    · intro z; exact absurd z.1 c
/-- a number, held just above what may be -/
def dX (B : Nat → Nat) (p : Nat) : Nat → Nat
  | 0 => 0
  | i + 1 => min 10000 (10 * dX B p i + (B (p + i) - 48))
theorem dX_le (B : Nat → Nat) (p : Nat) : ∀ i, dX B p i ≤ 10000
  | 0 => by show 0 ≤ _; omega
  | i + 1 => by show min _ _ ≤ _; omega
def numS (v y : Int32) : Int32 := if (((10 : Int32) * v) + y) - 48 < 10000 then (((10 : Int32) * v) + y) - 48 else 10000
theorem numS_ok {v b : Nat} (hv : v ≤ 10000) (h1 : 48 ≤ b) (h2 : b ≤ 57) : numS (nI v) (nI b) = nI (min 10000 (10 * v + (b - 48))) := by
  unfold numS
  have e : ((10 : Int32) * nI v + nI b) - 48 = nI (10 * v + (b - 48)) := by
    rw [show (10 : Int32) = nI 10 from rfl, show (48 : Int32) = nI 48 from rfl, pk_mul, nI_add, pk_sub (by omega), show 10 * v + b - 48 = 10 * v + (b - 48) by omega]
  rw [e]
  by_cases c : 10 * v + (b - 48) < 10000
  · rw [if_pos (show nI _ < (10000 : Int32) from nI_lt c (by decide)), show min 10000 (10 * v + (b - 48)) = 10 * v + (b - 48) by omega]
  · rw [if_neg (show ¬ nI _ < (10000 : Int32) from nI_nlt (show 10000 ≤ 10 * v + (b - 48) by omega) (by omega)), show min 10000 (10 * v + (b - 48)) = 10000 by omega]
    rfl
/-- a turn of the class's second loop -/
theorem adv91 {n : Nat} {B : Nat → Nat} {t : Tp} {m : MS} (h : TC n B t m) {i : Nat} (hi : i ≤ n) (nf : Nat) (x1 c p v : Int32) : lX3_advance_91 (nf + 1) x1 ((nI i, c, p, v), t) = if i < n then (if nI (tk n B i) = c then (if x1 = 0 then (if nI i = p then (if c = 2 then lX3_advance_91 nf x1 ((nI (i + 1), c, p, numS v (tByt t i)), t) else lX3_advance_91 nf x1 ((nI (i + 1), c, p, v), t)) else some ((nI i, c, p, v), t)) else (if c = 2 then lX3_advance_91 nf x1 ((nI (i + 1), c, p, numS v (tByt t i)), t) else lX3_advance_91 nf x1 ((nI (i + 1), c, p, v), t))) else some ((nI i, c, p, v), t)) else some ((nI i, c, p, v), t) := by
  have e := X_tokenAt (u := ((nI i, c, p, v), t)) h hi
  have e1 : cAt (ttX ((nI i, c, p, v), t)) = nI i := rfl
  have e2 : tLen (ttP ((nI i, c, p, v), t)) = nI n := h.2.1
  have h120 : n ≤ 120 := h.1
  rw [lX3_advance_91_eq, e1, e2, e]
  by_cases q : i < n
  · rw [if_neg (nI_ge q (by omega)), if_pos q, Option.bind_some]
    show (if nI (tk n B i) = c then (if x1 = 0 then (if nI i = p then (if c = 2 then (if nI i < 0 ∨ 120 ≤ (nI i).toNatClampNeg then none else lX3_advance_91 nf x1 ((nI i + 1, c, p, numS v (tByt t (nI i).toNatClampNeg)), t)) else lX3_advance_91 nf x1 ((nI i + 1, c, p, v), t)) else some ((nI i, c, p, v), t)) else (if c = 2 then (if nI i < 0 ∨ 120 ≤ (nI i).toNatClampNeg then none else lX3_advance_91 nf x1 ((nI i + 1, c, p, numS v (tByt t (nI i).toNatClampNeg)), t)) else lX3_advance_91 nf x1 ((nI i + 1, c, p, v), t))) else some ((nI i, c, p, v), t)) = _
    rw [if_neg (ix (show i < 120 by omega)), cl (show i < 2 ^ 31 by omega), nI_1]
  · rw [if_pos (nI_le (by omega) (by omega)), if_neg q]
/-- a turn of the reference's second loop -/
theorem tok86 {n : Nat} {B : Nat → Nat} {t : Tp} {m : MS} (h : TC n B t m) {i : Nat} (hm : mTo m = nI i) (hi : i < 2 ^ 30) (nf : Nat) (w d : Bool) : lX5_token_86 (nf + 1) (b2i w) (b2i d) m = if (w && decide (tk n B i = 1)) = true ∨ (d && decide (tk n B i = 2)) = true then lX5_token_86 nf (b2i w) (b2i d) (mTo' m (nI (i + 1))) else some m := by
  have hb : i < n → B i ≤ 255 := fun c => (h.2.2.2 i c).1
  have e := M_byteAt h (show i < 2 ^ 31 by omega)
  have e1 : mTo m + 1 = nI (i + 1) := by rw [hm, nI_1]
  rw [lX5_token_86_eq]
  simp only [hm, e, Option.bind_some, M_isLetter, M_isDigit, bt_letter hb, bt_digit hb, b2i_0, nI_1]
  cases w <;> cases d <;> by_cases c1 : tk n B i = 1 <;> by_cases c2 : tk n B i = 2 <;> simp [c1, c2]
def TkRun (n : Nat) (B : Nat → Nat) (c a b : Nat) : Prop := ∀ j, a ≤ j → j < b → tk n B j = c
/-- letters -/
theorem runW {n : Nat} {B : Nat → Nat} {t : Tp} {p v : Int32} : ∀ (i j nf nf' : Nat) (m : MS), TC n B t m → mTo m = nI j → i + j = n → i < nf → i < nf' → ∃ e, lX3_advance_91 nf 1 ((nI j, nI 1, p, v), t) = some ((nI e, nI 1, p, v), t) ∧ lX5_token_86 nf' (b2i true) (b2i false) m = some (mTo' m (nI e)) ∧ j ≤ e ∧ e ≤ n ∧ TkRun n B 1 j e := by
  intro i
  induction i with
  | zero =>
    intro j nf nf' m h hm hi hn hn'
    obtain ⟨nf, rfl⟩ : ∃ q, nf = q + 1 := ⟨nf - 1, by omega⟩
    obtain ⟨nf', rfl⟩ : ∃ q, nf' = q + 1 := ⟨nf' - 1, by omega⟩
    obtain rfl : j = n := by omega
    have h120 := h.1
    have ht : tk j B j = 0 := tk_0.mpr (Nat.le_refl j)
    refine ⟨j, ?_, ?_, Nat.le_refl j, Nat.le_refl j, fun q h1 h2 => absurd h2 (by omega)⟩
    · rw [adv91 h (Nat.le_refl j), if_neg (Nat.lt_irrefl j)]
    · rw [tok86 h hm (by omega), if_neg (by rw [ht]; decide), ← hm]
      rfl
  | succ i ih =>
    intro j nf nf' m h hm hi hn hn'
    obtain ⟨nf, rfl⟩ : ∃ q, nf = q + 1 := ⟨nf - 1, by omega⟩
    obtain ⟨nf', rfl⟩ : ∃ q, nf' = q + 1 := ⟨nf' - 1, by omega⟩
    have h120 := h.1
    have hj : j < n := by omega
    rw [adv91 h (show j ≤ n by omega), if_pos hj, tok86 h hm (by omega)]
    by_cases c : tk n B j = 1
    · rw [c, if_pos rfl, if_neg (by decide), if_neg (by decide), if_pos (by decide)]
      obtain ⟨e, e1, e2, e3, e4, e5⟩ := ih (j + 1) nf nf' (mTo' m (nI (j + 1))) h rfl (by omega) (by omega) (by omega)
      refine ⟨e, e1, e2, by omega, e4, fun q h1 h2 => ?_⟩
      by_cases cq : q = j
      · rw [cq]; exact c
      · exact e5 q (by omega) h2
    · have htl := tk_lt (n := n) (B := B) (i := j)
      refine ⟨j, ?_, ?_, Nat.le_refl j, by omega, fun q h1 h2 => absurd h2 (by omega)⟩
      · rw [if_neg (fun z => c ((nI_eq (by omega) (by omega)).mp z))]
      · rw [if_neg (by simp [c]), ← hm]
        rfl
/-- digits -/
theorem runD {n : Nat} {B : Nat → Nat} {t : Tp} {p : Nat} : ∀ (i j nf nf' : Nat) (m : MS), TC n B t m → mTo m = nI j → i + j = n → i < nf → i < nf' → p ≤ j → ∃ e, lX3_advance_91 nf 1 ((nI j, nI 2, nI p, nI (dX B p (j - p))), t) = some ((nI e, nI 2, nI p, nI (dX B p (e - p))), t) ∧ lX5_token_86 nf' (b2i false) (b2i true) m = some (mTo' m (nI e)) ∧ j ≤ e ∧ e ≤ n ∧ TkRun n B 2 j e := by
  intro i
  induction i with
  | zero =>
    intro j nf nf' m h hm hi hn hn' hp
    obtain ⟨nf, rfl⟩ : ∃ q, nf = q + 1 := ⟨nf - 1, by omega⟩
    obtain ⟨nf', rfl⟩ : ∃ q, nf' = q + 1 := ⟨nf' - 1, by omega⟩
    obtain rfl : j = n := by omega
    have h120 := h.1
    have ht : tk j B j = 0 := tk_0.mpr (Nat.le_refl j)
    refine ⟨j, ?_, ?_, Nat.le_refl j, Nat.le_refl j, fun q h1 h2 => absurd h2 (by omega)⟩
    · rw [adv91 h (Nat.le_refl j), if_neg (Nat.lt_irrefl j)]
    · rw [tok86 h hm (by omega), if_neg (by rw [ht]; decide), ← hm]
      rfl
  | succ i ih =>
    intro j nf nf' m h hm hi hn hn' hp
    obtain ⟨nf, rfl⟩ : ∃ q, nf = q + 1 := ⟨nf - 1, by omega⟩
    obtain ⟨nf', rfl⟩ : ∃ q, nf' = q + 1 := ⟨nf' - 1, by omega⟩
    have h120 := h.1
    have hj : j < n := by omega
    rw [adv91 h (show j ≤ n by omega), if_pos hj, tok86 h hm (by omega)]
    by_cases c : tk n B j = 2
    · obtain ⟨-, b1, b2⟩ := tk_digit c
      have e0 : numS (nI (dX B p (j - p))) (tByt t j) = nI (dX B p (j + 1 - p)) := by
        rw [(h.2.2.2 j hj).2.2, byt_lo (by omega), numS_ok (dX_le B p _) b1 b2, show j + 1 - p = (j - p) + 1 by omega]
        show _ = nI (min 10000 (10 * dX B p (j - p) + (B (p + (j - p)) - 48)))
        rw [show p + (j - p) = j by omega]
      rw [c, if_pos rfl, if_neg (by decide), if_pos (by decide), if_pos (by decide), e0]
      obtain ⟨e, e1, e2, e3, e4, e5⟩ := ih (j + 1) nf nf' (mTo' m (nI (j + 1))) h rfl (by omega) (by omega) (by omega) (by omega)
      refine ⟨e, e1, e2, by omega, e4, fun q h1 h2 => ?_⟩
      by_cases cq : q = j
      · rw [cq]; exact c
      · exact e5 q (by omega) h2
    · have htl := tk_lt (n := n) (B := B) (i := j)
      refine ⟨j, ?_, ?_, Nat.le_refl j, by omega, fun q h1 h2 => absurd h2 (by omega)⟩
      · rw [if_neg (fun z => c ((nI_eq (by omega) (by omega)).mp z))]
      · rw [if_neg (by simp [c]), ← hm]
        rfl
def Tok (n : Nat) (B : Nat → Nat) (p e : Nat) : Prop := p ≤ e ∧ e ≤ n ∧ (p < n → p < e) ∧ (tk n B p = 1 → TkRun n B 1 p e) ∧ (tk n B p = 2 → TkRun n B 2 p e)
def cTx (n : Nat) (B : Nat → Nat) (p e : Nat) : Tx := (nI e, nI (tk n B p), nI p, nI (if tk n B p = 2 then dX B p (e - p) else 0))
/-- behind the blanks: one token -/
theorem tok_at {n : Nat} {B : Nat → Nat} {t : Tp} {m : MS} (h : TC n B t m) {p nf nf' : Nat} (hp : p ≤ n) (hn : n + 1 < nf) (hn' : n + 1 < nf') : ∃ e, lX3_advance_91 nf (if tk n B p = 1 ∨ tk n B p = 2 then 1 else 0) ((nI p, nI (tk n B p), nI p, 0), t) = some (cTx n B p e, t) ∧ lX5_token_86 nf' (b2i (decide (tk n B p = 1))) (b2i (decide (tk n B p = 2))) (mTo' m (if n ≤ p then nI p else nI (p + 1))) = some (mTo' m (nI e)) ∧ Tok n B p e := by
  have h120 := h.1
  obtain ⟨nf, rfl⟩ : ∃ q, nf = q + 1 := ⟨nf - 1, by omega⟩
  by_cases c0 : n ≤ p
  · obtain rfl : p = n := by omega
    have ht : tk p B p = 0 := tk_0.mpr (Nat.le_refl p)
    obtain ⟨nf', rfl⟩ : ∃ q, nf' = q + 1 := ⟨nf' - 1, by omega⟩
    refine ⟨p, ?_, ?_, Nat.le_refl p, Nat.le_refl p, fun z => absurd z (Nat.lt_irrefl p), fun z => absurd (ht.symm.trans z) (by decide), fun z => absurd (ht.symm.trans z) (by decide)⟩
    · rw [adv91 h (Nat.le_refl p), if_neg (Nat.lt_irrefl p)]
      unfold cTx
      rw [ht]
      rfl
    · rw [if_pos (Nat.le_refl p), tok86 (m := mTo' m (nI p)) (i := p) h rfl (by omega), if_neg (by rw [ht]; decide)]
  · have hlt : p < n := by omega
    rw [adv91 h hp, if_pos hlt, if_pos rfl, if_neg c0]
    by_cases c1 : tk n B p = 1
    · obtain ⟨e, e1, e2, e3, e4, e5⟩ := runW (p := nI p) (v := 0) (n - (p + 1)) (p + 1) nf nf' (mTo' m (nI (p + 1))) h rfl (by omega) (by omega) (by omega)
      refine ⟨e, ?_, ?_, by omega, e4, fun _ => by omega, fun _ q h1 h2 => ?_, fun z => by rw [c1] at z; cases z⟩
      · rw [if_pos (Or.inl c1), if_neg (by decide), c1, if_neg (by decide), e1]
        unfold cTx
        rw [c1]
        rfl
      · rw [c1]
        exact e2
      · by_cases cq : q = p
        · rw [cq]; exact c1
        · exact e5 q (by omega) h2
    · by_cases c2 : tk n B p = 2
      · obtain ⟨-, b1, b2⟩ := tk_digit c2
        have e0 : numS 0 (tByt t p) = nI (dX B p (p + 1 - p)) := by
          rw [(h.2.2.2 p hlt).2.2, byt_lo (by omega), show (0 : Int32) = nI 0 from rfl, numS_ok (by omega) b1 b2, show p + 1 - p = 0 + 1 by omega]
          rfl
        obtain ⟨e, e1, e2, e3, e4, e5⟩ := runD (p := p) (n - (p + 1)) (p + 1) nf nf' (mTo' m (nI (p + 1))) h rfl (by omega) (by omega) (by omega) (by omega)
        refine ⟨e, ?_, ?_, by omega, e4, fun _ => by omega, fun z => absurd z c1, fun _ q h1 h2 => ?_⟩
        · rw [if_pos (Or.inr c2), if_neg (by decide), c2, if_pos (by decide), e0, e1]
          unfold cTx
          rw [c2]
          rfl
        · rw [c2]
          exact e2
        · by_cases cq : q = p
          · rw [cq]; exact c2
          · exact e5 q (by omega) h2
      · have htl := tk_lt (n := n) (B := B) (i := p)
        obtain ⟨nf, rfl⟩ : ∃ q, nf = q + 1 := ⟨nf - 1, by omega⟩
        obtain ⟨nf', rfl⟩ : ∃ q, nf' = q + 1 := ⟨nf' - 1, by omega⟩
        refine ⟨p + 1, ?_, ?_, by omega, by omega, fun _ => by omega, fun z => absurd z c1, fun z => absurd z c2⟩
        · rw [if_neg (show ¬ (tk n B p = 1 ∨ tk n B p = 2) from fun z => z.elim c1 c2), if_pos (show (0 : Int32) = 0 from rfl), if_pos (show nI p = nI p from rfl), if_neg (show ¬ nI (tk n B p) = (2 : Int32) from fun z => c2 ((nI_eq (b := 2) (by omega) (by omega)).mp z)), adv91 h (show p + 1 ≤ n by omega)]
          have hne : ¬ nI (p + 1) = nI p := fun z => by have := (nI_eq (by omega) (by omega)).mp z; omega
          unfold cTx
          rw [if_neg c2]
          by_cases c5 : p + 1 < n
          · rw [if_pos c5]
            by_cases c6 : nI (tk n B (p + 1)) = nI (tk n B p)
            · rw [if_pos c6, if_pos rfl, if_neg hne]; rfl
            · rw [if_neg c6]; rfl
          · rw [if_neg c5]; rfl
        · rw [tok86 (m := mTo' m (nI (p + 1))) (i := p + 1) h rfl (by omega), if_neg (by simp [c1, c2])]
/-- the next token -/
theorem tokL {n : Nat} {B : Nat → Nat} {t : Tp} {c d v : Int32} : ∀ (i j nf nf' : Nat) (m : MS), TC n B t m → mFrm m = nI j → i + j = n → i + n + 3 < nf → i + n + 3 < nf' → ∃ p e, lX3_advance_0 nf ((nI j, c, d, v), t) = some (cTx n B p e, t) ∧ lX5_token_8 nf' m = some (mTo' (mFrm' m (nI p)) (nI e)) ∧ j ≤ p ∧ Tok n B p e := by
  have last : ∀ (j nf nf' : Nat) (m : MS), TC n B t m → mFrm m = nI j → j ≤ n → n + 2 < nf → n + 2 < nf' → ¬ (j < n ∧ B j = 32) → ∃ p e, lX3_advance_0 nf ((nI j, c, d, v), t) = some (cTx n B p e, t) ∧ lX5_token_8 nf' m = some (mTo' (mFrm' m (nI p)) (nI e)) ∧ j ≤ p ∧ Tok n B p e := by
    intro j nf nf' m h hm hj hn hn' hb
    obtain ⟨nf, rfl⟩ : ∃ q, nf = q + 1 := ⟨nf - 1, by omega⟩
    obtain ⟨nf', rfl⟩ : ∃ q, nf' = q + 1 := ⟨nf' - 1, by omega⟩
    have h120 := h.1
    have hbj : j < n → B j ≤ 255 := fun c => (h.2.2.2 j c).1
    obtain ⟨e, e1, e2, e3⟩ := tok_at (m := m) h hj (show n + 1 < nf by omega) (show n + 1 < nf' by omega)
    refine ⟨j, e, ?_, ?_, Nat.le_refl j, e3⟩
    · have et := X_tokenAt (u := ((nI j, c, nI j, v), t)) h hj
      have tail : ((fX3_tokenAt (nI j) ((nI j, c, nI j, v), t)).bind fun q0 => (if q0.1 = 1 then (lX3_advance_91 nf 1 (ttX' q0.2 (cNum' (cTok' (ttX q0.2) q0.1) 0))) else (if q0.1 = 2 then (lX3_advance_91 nf 1 (ttX' q0.2 (cNum' (cTok' (ttX q0.2) q0.1) 0))) else (lX3_advance_91 nf 0 (ttX' q0.2 (cNum' (cTok' (ttX q0.2) q0.1) 0)))))) = some (cTx n B j e, t) := by
        rw [et, Option.bind_some]
        show (if nI (tk n B j) = 1 then lX3_advance_91 nf 1 ((nI j, nI (tk n B j), nI j, 0), t) else (if nI (tk n B j) = 2 then lX3_advance_91 nf 1 ((nI j, nI (tk n B j), nI j, 0), t) else lX3_advance_91 nf 0 ((nI j, nI (tk n B j), nI j, 0), t))) = _
        have htl := tk_lt (n := n) (B := B) (i := j)
        by_cases q1 : tk n B j = 1
        · rw [if_pos (by rw [q1]; rfl)]
          rw [if_pos (Or.inl q1)] at e1
          exact e1
        · rw [if_neg (show ¬ nI (tk n B j) = (1 : Int32) from fun z => q1 ((nI_eq (b := 1) (by omega) (by omega)).mp z))]
          by_cases q2 : tk n B j = 2
          · rw [if_pos (by rw [q2]; rfl)]
            rw [if_pos (Or.inr q2)] at e1
            exact e1
          · rw [if_neg (show ¬ nI (tk n B j) = (2 : Int32) from fun z => q2 ((nI_eq (b := 2) (by omega) (by omega)).mp z))]
            rw [if_neg (fun z => z.elim q1 q2)] at e1
            exact e1
      rw [lX3_advance_0_eq]
      show (if tLen t ≤ nI j then _ else (if nI j < 0 ∨ 120 ≤ (nI j).toNatClampNeg then none else (if tByt t (nI j).toNatClampNeg = 32 then _ else _))) = _
      rw [h.2.1]
      by_cases cj : j < n
      · rw [if_neg (nI_ge cj (by omega)), if_neg (ix (show j < 120 by omega)), cl (by omega), if_neg (show ¬ tByt t j = (32 : Int32) from fun z => hb ⟨cj, (byt_eq (c := 32) (hbj cj) (by omega)).mp ((h.2.2.2 j cj).2.2.symm.trans z)⟩)]
        exact tail
      · rw [if_pos (nI_le (by omega) (by omega))]
        exact tail
    · have eb := M_byteAt h (show j < 2 ^ 31 by omega)
      rw [lX5_token_8_eq, hm, eb, Option.bind_some]
      show (if btM n B j = 32 then _ else ((fX5_byteAt (mFrm m) m).bind _)) = _
      rw [if_neg (show ¬ btM n B j = (32 : Int32) from fun z => hb ((bt_is (c := 32) hbj (by omega)).mp z)), hm, eb, Option.bind_some, M_isLetter, Option.bind_some]
      show ((fX5_byteAt (mFrm m) m).bind _) = _
      rw [hm, eb, Option.bind_some, M_isDigit, Option.bind_some, bt_letter hbj, bt_digit hbj]
      show (if mTpd m ≤ mFrm m then lX5_token_86 nf' _ _ (mTo' m (mFrm m)) else lX5_token_86 nf' _ _ (mTo' m (mFrm m + 1))) = _
      rw [h.2.2.1, hm, nI_1]
      have em : mTo' (mFrm' m (nI j)) (nI e) = mTo' m (nI e) := by rw [← hm]; rfl
      rw [em]
      by_cases cj : n ≤ j
      · rw [if_pos (nI_le cj (by omega))]
        rw [if_pos cj] at e2
        exact e2
      · rw [if_neg (nI_ge (by omega) (by omega))]
        rw [if_neg cj] at e2
        exact e2
  intro i
  induction i with
  | zero =>
    intro j nf nf' m h hm hi hn hn'
    exact last j nf nf' m h hm (by omega) (by omega) (by omega) (fun z => by omega)
  | succ i ih =>
    intro j nf nf' m h hm hi hn hn'
    by_cases cb : j < n ∧ B j = 32
    · obtain ⟨nf, rfl⟩ : ∃ q, nf = q + 1 := ⟨nf - 1, by omega⟩
      obtain ⟨nf', rfl⟩ : ∃ q, nf' = q + 1 := ⟨nf' - 1, by omega⟩
      have h120 := h.1
      have hbj : j < n → B j ≤ 255 := fun c => (h.2.2.2 j c).1
      obtain ⟨p, e, e1, e2, e3, e4⟩ := ih (j + 1) nf nf' (mFrm' m (nI (j + 1))) h rfl (by omega) (by omega) (by omega)
      refine ⟨p, e, ?_, ?_, by omega, e4⟩
      · rw [lX3_advance_0_eq]
        show (if tLen t ≤ nI j then _ else (if nI j < 0 ∨ 120 ≤ (nI j).toNatClampNeg then none else (if tByt t (nI j).toNatClampNeg = 32 then lX3_advance_0 nf ((nI j + 1, c, d, v), t) else _))) = _
        rw [h.2.1, if_neg (nI_ge cb.1 (by omega)), if_neg (ix (show j < 120 by omega)), cl (by omega), if_pos (by rw [(h.2.2.2 j cb.1).2.2, cb.2]; decide), nI_1]
        exact e1
      · have eb := M_byteAt h (show j < 2 ^ 31 by omega)
        rw [lX5_token_8_eq, hm, eb, Option.bind_some]
        show (if btM n B j = 32 then lX5_token_8 nf' (mFrm' m (mFrm m + 1)) else _) = _
        rw [if_pos (show btM n B j = (32 : Int32) from (bt_is (c := 32) hbj (by omega)).mpr cb), hm, nI_1]
        exact e2
    · exact last j nf nf' m h hm (by omega) (by omega) (by omega) cb
