-- THE LAW'S WORLD: the class's 44 cells, then the reference's 11
def picM44 (u : MS) : AW := [.inr (5, [.ref 45, .ref 46, .ref 47, .ref 48, .ref 49, .int ((mIsK u)), .ref 50, .int ((mTpd u)), .int ((mFrm u)), .int ((mTo u)), .int ((mVal u)), .int ((mWrg u)), .ref 51, .ref 52, .ref 53, .ref 54]), .inl (0, 69, .inl ((mS u))), .inl (0, 69, .inl ((mKpt u))), .inl (0, 69, .inl ((mOth u))), .inl (0, 69, .inl ((mAsd u))), .inl (0, 7, .inl ((mSts u))), .inl (0, 120, .inl ((mTape u))), .inl (0, 4, .inl ((mBit u))), .inl (0, 4, .inl ((mSiz u))), .inl (1, 160, .inr (.inl ((mNum u)))), .inl (1, 40, .inr (.inl ((mMvd u))))]
def LW (x : XS) (m : MS) : AW := picX x ++ picM44 m
def pl44 : List Nat := [44, 45, 46, 47, 48, 49, 50, 51, 52, 53, 54]
theorem picX_len (x : XS) : (picX x).length = 44 := rfl
theorem LW_take (x : XS) (m : MS) : (LW x m).take 44 = picX x := by
  unfold LW
  rw [← picX_len x]
  exact List.take_left
theorem LW_drop (x : XS) (m : MS) : (LW x m).drop 44 = picM44 m := by
  unfold LW
  rw [← picX_len x]
  exact List.drop_left
theorem unX_pic (x : XS) : unX (picX x) = some x := rfl
theorem unM_pic (m : MS) : unM (picM m) = some m := rfl
/-- places from n on, of a world whose first n cells stay -/
def subS (pl : List Nat) (n : Nat) (wn : AW) : List Nat → Option AW
  | [] => some []
  | a :: r => match wn[a - n]? with
    | some q => (match unC pl q, subS pl n wn r with
      | some b, some w => some (b :: w)
      | _, _ => none)
    | none => none
def putS (pl : List Nat) (n : Nat) : List Nat → AW → AW → AW
  | a :: r, q :: w, ws => putS pl n r w (ws.set (a - n) (rnC pl q))
  | _, _, ws => ws
theorem subS_ok (pl : List Nat) (wx wn : AW) : ∀ r : List Nat, (∀ a ∈ r, wx.length ≤ a) → subW pl (wx ++ wn) r = subS pl wx.length wn r
  | [], _ => rfl
  | a :: r, h => by
    have e1 : (wx ++ wn)[a]? = wn[a - wx.length]? := List.getElem?_append_right (h a List.mem_cons_self)
    unfold subW subS
    rw [e1, subS_ok pl wx wn r (fun b hb => h b (List.mem_cons_of_mem _ hb))]
    rfl
theorem putS_ok (pl : List Nat) (wx : AW) : ∀ (r : List Nat) (w wn : AW), (∀ a ∈ r, wx.length ≤ a) → putW pl r w (wx ++ wn) = wx ++ putS pl wx.length r w wn
  | [], _, _, _ => by unfold putW putS; rfl
  | _ :: _, [], _, _ => by unfold putW putS; rfl
  | a :: r, q :: w, wn, h => by
    unfold putW putS
    rw [List.set_append_right _ _ (h a List.mem_cons_self)]
    exact putS_ok pl wx r w _ (fun b hb => h b (List.mem_cons_of_mem _ hb))
theorem pl44_ge : ∀ a ∈ pl44, 44 ≤ a := by decide
theorem LW_sub (x : XS) (m : MS) : subW pl44 (LW x m) pl44 = some (picM m) := by
  unfold LW
  rw [subS_ok pl44 (picX x) (picM44 m) pl44 (fun a h => by rw [picX_len]; exact pl44_ge a h), picX_len]
  rfl
theorem LW_put (x : XS) (m m' : MS) : putW pl44 pl44 (picM m') (LW x m) = LW x m' := by
  unfold LW
  rw [putS_ok pl44 (picX x) pl44 (picM m') (picM44 m) (fun a h => by rw [picX_len]; exact pl44_ge a h), picX_len]
  rfl
theorem pre_eq {α τ : Type} {ua : List Value → Option α} {pv : τ → Option Value} {g : τ → XS} {f : α → XS → Option τ} {as : List Value} {a : α} {q : τ} {x : XS} {m : MS} (ha : ua as = some a) (hf : f a x = some q) : preF 44 (mkG unX ua pv (fun _ q => picX (g q)) f) (Option Value × AW) as (LW x m) (fun v w => some (v, w)) = some (pv q, LW (g q) m) := by
  unfold preF mkG
  rw [LW_take, LW_drop, ha, unX_pic]
  show (f a x).bind _ = _
  rw [hf]
  rfl
theorem lift_eq {α τ : Type} {ua : List Value → Option α} {pv : τ → Option Value} {g : τ → MS} {f : α → MS → Option τ} {as as' : List Value} {a : α} {q : τ} {x : XS} {m : MS} (hl : unL pl44 as = some as') (ha : ua as' = some a) (hf : f a m = some q) (hv : (pv q).map (rnV pl44) = pv q) : liftF (fun _ => pl44) (mkG unM ua pv (fun _ q => picM (g q)) f) (Option Value × AW) as (LW x m) (fun v w => some (v, w)) = some (pv q, LW x (g q)) := by
  unfold liftF
  show (match unL pl44 as, subW pl44 (LW x m) pl44 with
    | some as', some wc => if va_nd pl44 = true ∧ pl44.length ≤ 1000 then mkG unM ua pv (fun _ q => picM (g q)) f (Option Value × AW) as' wc (fun v wc' => some (v.map (rnV pl44), putW pl44 pl44 wc' (LW x m))) else none
    | _, _ => none) = _
  rw [hl, LW_sub]
  show (if va_nd pl44 = true ∧ pl44.length ≤ 1000 then _ else none) = _
  rw [if_pos (by decide)]
  unfold mkG
  rw [ha, unM_pic]
  show (f a m).bind _ = _
  rw [hf]
  show some ((pv q).map (rnV pl44), putW pl44 pl44 (picM (g q)) (LW x m)) = _
  rw [LW_put, hv]
