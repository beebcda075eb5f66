-- how many the reference finds safe, and its odds
theorem sm_tm {post : Int32 → Unit → Prop} {pl rav rbv md : Nat → Int32} {s p a b ra rb n : Nat} (hs : s < 8) (hp : p ≤ 20) (hab : a ≤ b) (hb : b ≤ 16) (hra : ra ≤ 1000) (hrb : rb ≤ 1000) (ep : pl s = nI p) (ea : rav s = nI ra) (eb : rbv s = nI rb) (hn : n ≤ 28) (hM : MR a b n md) (h1 : ra * b ^ n < tooMany a b p n * rb → post 1 ()) (h0 : ¬ ra * b ^ n < tooMany a b p n * rb → post 0 ()) : wp_M_isTooMuch post (nI s) pl rav rbv md := by
  have e : sumTo (dst a b n) 29 * ra = ra * b ^ n := by rw [dst_all hab n hn, Nat.mul_comm]
  refine sm_much hs hp hra hrb ep ea eb hM (fun j hj => ?_) (fun z => h1 ?_) (fun z => h0 ?_)
  · have h1 := dst_b (j := j) hab hn hj
    have h2 := pow_b hb hn
    exact Nat.lt_of_le_of_lt h1 h2
  · rw [e, ← tooMany_ab] at z
    exact z
  · rw [e, ← tooMany_ab] at z
    exact z
theorem sm_m32 {post : Int32 → (Nat → Int32) → Prop} {pl av be rav rbv : Nat → Int32} {s p a b ra rb : Nat} (hs : s < 8) (hp : p ≤ 20) (hab : a ≤ b) (hb : b ≤ 16) (hra : ra ≤ 1000) (hrb : rb ≤ 1000) (ep : pl s = nI p) (ea : av s = nI a) (eb : be s = nI b) (era : rav s = nI ra) (erb : rbv s = nI rb) : ∀ (f n : Nat) (md : Nat → Int32), n + f = p + 8 → MR a b n md → (∀ md', post (nI (mgo (fun n => decide (ra * b ^ n < tooMany a b p n * rb)) f n)) md') → wp_M_mostOf_32 post pl av be rav rbv (f + 1) (nI s) (nI n) (nI n) 1 md := by
  have hv : vp_in (nI s) 8 := vin hs (by omega)
  intro f
  induction f with
  | zero =>
    intro n md hn hM h
    refine ⟨hv, go_y ?_ (h md)⟩
    rw [cl (by omega), ep, show nI p + (8 : Int32) = nI (p + 8) from nI_add p 8]
    exact nI_le (by omega) (by omega)
  | succ f ih =>
    intro n md hn hM h
    refine ⟨hv, go_n ?_ (go_n (by decide) (sm_guest hs hab hb ea eb hM (fun md' hM' x ex => ?_)))⟩
    · rw [cl (by omega), ep, show nI p + (8 : Int32) = nI (p + 8) from nI_add p 8]
      exact nI_ge (by omega) (by omega)
    · rw [ex, nI_1]
      refine sm_tm hs hp hab hb hra hrb ep era erb (by omega) hM' (fun z => go_n (by decide) ⟨hv, ?_⟩) (fun z => go_y rfl (ih (n + 1) md' (by omega) hM' (fun md2 => ?_)))
      · have H := h md'
        rw [mgo, if_pos (decide_eq_true z)] at H
        exact ⟨fun _ => H, fun _ => go_y rfl H⟩
      · have H := h md2
        rw [mgo, if_neg (fun y => z (of_decide_eq_true y))] at H
        exact H
theorem sm_mostOf {post : Int32 → (Nat → Int32) → Prop} {pl av be rav rbv md : Nat → Int32} {s p a b ra rb : Nat} (hs : s < 8) (hp : p ≤ 20) (hab : a ≤ b) (hb : b ≤ 16) (hra : ra ≤ 1000) (hrb : rb ≤ 1000) (ep : pl s = nI p) (ea : av s = nI a) (eb : be s = nI b) (era : rav s = nI ra) (erb : rbv s = nI rb) (h : ∀ md', post (nI (mostN p a b ra rb)) md') : wp_M_mostOf post (nI s) pl av be rav rbv md := by
  have hv : vp_in (nI s) 8 := vin hs (by omega)
  have loop : ∀ (d n : Nat) (md : Nat → Int32), n + d = p → MR a b n md → wp_M_mostOf_6 post pl av be rav rbv (d + 1) (nI s) (nI n) md := by
    intro d
    induction d with
    | zero =>
      intro n md hn hM
      obtain rfl : n = p := by omega
      refine ⟨hv, go_y ?_ ⟨9, sm_m32 hs hp hab hb hra hrb ep ea eb era erb 8 n md rfl hM h⟩⟩
      rw [cl (by omega), ep]
      exact nI_le (Nat.le_refl _) (by omega)
    | succ d ih =>
      intro n md hn hM
      refine ⟨hv, go_n ?_ (sm_guest hs hab hb ea eb hM (fun md' hM' x ex => ?_))⟩
      · rw [cl (by omega), ep]
        exact nI_ge (by omega) (by omega)
      · rw [ex, nI_1]
        exact ih (n + 1) md' (by omega) hM'
  exact sm_blank (a := a) (b := b) (fun md' hM => ⟨p + 1, loop p 0 md' (by omega) hM⟩)
theorem sm_odds47 {post : Int32 → (Int32 × (Nat → Int32)) → Prop} {vs th : Int32} {pl av be : Nat → Int32} {s p a b g k : Nat} (hs : s < 8) (hp : p ≤ 20) (hab : a ≤ b) (hb : b ≤ 16) (hg : g ≤ 28) (hk : k < 42) (ep : pl s = nI p) (ea : av s = nI a) (eb : be s = nI b) (h : ∀ md', post (nI (dg 10 k (tooMany a b p g))) (th, md')) : ∀ (d n : Nat) (md : Nat → Int32), n + d = g → MR a b n md → wp_M_odds_47 post vs pl av be (d + 1) (nI s) (nI g) (nI k) (nI n) th md := by
  intro d
  induction d with
  | zero =>
    intro n md hn hM
    obtain rfl : n = g := by omega
    refine go_y (nI_le (Nat.le_refl _) (by omega)) ⟨vin hs (by omega), ?_⟩
    rw [cl (by omega), ep, nI_1]
    refine sm_sum hp hM (fun md' h' => ?_)
    rw [show (1218 : Int32) + nI k = nI (1218 + k) from nI_add 1218 k, cl (by omega), h' k hk, ← tooMany_ab]
    exact ⟨vin (by omega) (by omega), h md'⟩
  | succ d ih =>
    intro n md hn hM
    refine go_n (nI_ge (by omega) (by omega)) (sm_guest hs hab hb ea eb hM (fun md' hM' x ex => ?_))
    rw [ex, nI_1]
    exact ih (n + 1) md' (by omega) hM'
