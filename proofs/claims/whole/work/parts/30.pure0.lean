-- the pure part: numbers first
theorem tI {a b : Int32} : a < b ↔ a.toInt < b.toInt := Int32.lt_iff_toInt_lt
theorem tL {a b : Int32} : a ≤ b ↔ a.toInt ≤ b.toInt := Int32.le_iff_toInt_le
theorem tE {a b : Int32} : a = b ↔ a.toInt = b.toInt := Int32.toInt_inj.symm
/-- an index that is none of 0 .. n - 1 -/
def bad (a : Int32) (n : Nat) : Prop := a < 0 ∨ nI n ≤ a
theorem ixs (a : Int32) {n : Nat} (hn : n < 2 ^ 31) : bad a n ∨ ∃ j : Nat, j < n ∧ a = nI j := by
  rcases pk_ix a hn with h | h | h
  · exact Or.inl (Or.inl h)
  · exact Or.inl (Or.inr h)
  · exact Or.inr h
theorem nbad {j n : Nat} (h : j < n) (hn : n < 2 ^ 31) : ¬ bad (nI j) n := by
  rintro (g | g)
  · exact nI_pos (by omega) g
  · exact nI_ge h hn g
theorem pred_lt {a : Int32} {n : Nat} (hn : n < 2 ^ 30) : nI n - (1 : Int32) < a ↔ nI n ≤ a := by
  rw [tI, tL, nI_toInt (by omega)]
  have e := pk_sub_toInt (a := n) (b := 1) hn (by omega)
  have e2 : (nI n - (1 : Int32)).toInt = (n : Int) - 1 := e
  rw [e2]; omega
theorem goodI {a : Int32} {n : Nat} (hn : n < 2 ^ 31) (h0 : ¬ a < 0) (h1 : a < nI n) : ∃ j : Nat, j < n ∧ a = nI j := by
  rcases ixs a hn with (h | h) | h
  · exact absurd h h0
  · exact absurd h1 (by rw [tI]; rw [tL] at h; omega)
  · exact h
theorem nlt_le {a b : Int32} : ¬ a < b ↔ b ≤ a := by rw [tI, tL]; omega
theorem nle_lt {a b : Int32} : ¬ a ≤ b ↔ b < a := by rw [tI, tL]; omega
-- the reference's small tests
theorem sm_within {post : Int32 → Unit → Prop} {a lo hi : Int32} (h0 : (a < lo ∨ hi < a) → post 0 ()) (h1 : ¬ a < lo → ¬ hi < a → post 1 ()) : wp_M_within post a lo hi :=
  ⟨fun h => h0 (Or.inl h), fun h => ⟨fun g => h0 (Or.inr g), fun g => h1 h g⟩⟩
/-- within 0 .. n - 1 -/
theorem sm_ix {post : Int32 → Unit → Prop} {a v : Int32} {n : Nat} (hn : n < 2 ^ 30) (e : v = nI n) (h0 : bad a n → post 0 ()) (h1 : ∀ j, j < n → a = nI j → post 1 ()) : wp_M_within post a (0 : Int32) (v - (1 : Int32)) := by
  subst e
  refine sm_within (fun h => h0 ?_) (fun h g => ?_)
  · rcases h with h | h
    · exact Or.inl h
    · exact Or.inr ((pred_lt hn).mp h)
  · rcases ixs a (n := n) (by omega) with (q | q) | ⟨j, hj, ej⟩
    · exact absurd q h
    · exact absurd ((pred_lt hn).mpr q) g
    · exact h1 j hj ej
theorem sm_isSlot {post : Int32 → Unit → Prop} {a v : Int32} {n : Nat} (hn : n < 2 ^ 30) (e : v = nI n) (h0 : bad a n → post 0 ()) (h1 : ∀ j, j < n → a = nI j → post 1 ()) : wp_M_isSlot post a v :=
  sm_ix hn e (fun h => ⟨Or.inl rfl, h0 h⟩) (fun j hj ej => ⟨Or.inr rfl, h1 j hj ej⟩)
theorem sm_isTicket {post : Int32 → Unit → Prop} {a v : Int32} {n : Nat} (hn : n < 2 ^ 30) (e : v = nI n) (h0 : bad a n → post 0 ()) (h1 : ∀ j, j < n → a = nI j → post 1 ()) : wp_M_isTicket post a v :=
  sm_ix hn e (fun h => ⟨Or.inl rfl, h0 h⟩) (fun j hj ej => ⟨Or.inr rfl, h1 j hj ej⟩)
theorem sm_isSecond {post : Int32 → Unit → Prop} {a : Int32} (h0 : (a < 0 ∨ (100000 : Int32) < a) → post 0 ()) (h1 : ¬ a < 0 → ¬ (100000 : Int32) < a → post 1 ()) : wp_M_isSecond post a :=
  sm_within (fun h => ⟨Or.inl rfl, h0 h⟩) (fun h g => ⟨Or.inr rfl, h1 h g⟩)
theorem sm_goes1 {post : Int32 → Int32 → Prop} {b c t : Int32} (h : post 0 1) : wp_M_goes post 0 b c t := ⟨fun _ => h, fun q => absurd rfl q⟩
theorem sm_goes2 {post : Int32 → Int32 → Prop} {c t : Int32} (h : post 0 2) : wp_M_goes post 1 0 c t := ⟨fun q => absurd q (by decide), fun _ => ⟨fun _ => h, fun q => absurd rfl q⟩⟩
theorem sm_goes3 {post : Int32 → Int32 → Prop} {t : Int32} (h : post 0 3) : wp_M_goes post 1 1 0 t := ⟨fun q => absurd q (by decide), fun _ => ⟨fun q => absurd q (by decide), fun _ => ⟨fun _ => h, fun q => absurd rfl q⟩⟩⟩
theorem sm_goes0 {post : Int32 → Int32 → Prop} {t : Int32} (h : post 1 0) : wp_M_goes post 1 1 1 t := ⟨fun q => absurd q (by decide), fun _ => ⟨fun q => absurd q (by decide), fun _ => ⟨fun q => absurd q (by decide), fun _ => h⟩⟩⟩
-- the class's small tests
theorem sx_ix {P : Prop} {Q : Prop} {a v : Int32} {n : Nat} (hn : n < 2 ^ 31) (e : v = nI n) (h0 : bad a n → P) (h1 : ∀ j, j < n → a = nI j → Q) : (a < 0 → P) ∧ (¬ (a < 0) → ((a < v → Q) ∧ (¬ (a < v) → P))) := by
  subst e
  refine ⟨fun h => h0 (Or.inl h), fun h => ⟨fun g => ?_, fun g => h0 (Or.inr (nlt_le.mp g))⟩⟩
  obtain ⟨j, hj, ej⟩ := goodI hn h g
  exact h1 j hj ej
theorem sx_needSlot {post : Unit → Prop} {px : String → Prop} {a v : Int32} {n : Nat} (hn : n < 2 ^ 31) (e : v = nI n) (h0 : bad a n → px "java/lang/IndexOutOfBoundsException") (h1 : ∀ j, j < n → a = nI j → post ()) : wp_X_needSlot post px a v := sx_ix hn e h0 h1
theorem sx_needTicket {post : Unit → Prop} {px : String → Prop} {a v : Int32} {n : Nat} (hn : n < 2 ^ 31) (e : v = nI n) (h0 : bad a n → px "java/lang/IndexOutOfBoundsException") (h1 : ∀ j, j < n → a = nI j → post ()) : wp_X_needTicket post px a v := sx_ix hn e h0 h1
theorem vin {j n : Nat} (h : j < n) (hn : n < 2 ^ 31) : vp_in (nI j) n := vp_in_nI h hn
theorem cl {j : Nat} (h : j < 2 ^ 31) : (nI j).toNatClampNeg = j := nI_clamp h
-- given
theorem sx_given {post : Int32 → Unit → Prop} {px : String → Prop} {a v : Int32} {tk : Nat → Int32} {n : Nat} (hn : n ≤ 30) (e : v = nI n) (h0 : bad a n → px "java/lang/IndexOutOfBoundsException") (h1 : ∀ j, j < n → a = nI j → post (tk j) ()) : wp_X_given post px a tk v :=
  sx_ix (by omega) e h0 (fun j hj ej => by subst ej; exact ⟨vin (by omega) (by omega), by rw [cl (by omega)]; exact h1 j hj rfl⟩)
theorem sm_given {post : Int32 → Int32 → Prop} {a t v : Int32} {tk : Nat → Int32} {n : Nat} (hn : n ≤ 30) (e : v = nI n) (h0 : bad a n → post 0 1) (h1 : ∀ j, j < n → a = nI j → post (tk j) 0) : wp_M_given post a t v tk := by
  refine sm_ix (by omega) e (fun h => sm_goes1 ⟨fun _ => h0 h, fun q => absurd rfl q⟩) (fun j hj ej => sm_goes0 ⟨fun q => absurd q (by decide), fun _ => ?_⟩)
  subst ej
  exact ⟨vin (by omega) (by omega), by rw [cl (by omega)]; exact h1 j hj rfl⟩
theorem sl_given {post : Int32 → (Nat → Int64) → Prop} {a v : Int32} {tk : Nat → Int32} {o : Nat → Int64} {n : Nat} (hn : n ≤ 30) (e : v = nI n) (h0 : bad a n → post 1 o) (h1 : ∀ j, j < n → a = nI j → post 0 (vp_updL o 0 (tk j).toInt64)) : wp_L_given post 1 a tk v o :=
  sx_given hn e (fun h => ⟨rfl, h0 h⟩) (fun j hj ej => ⟨(show ¬ ((0 : Int32) < 0 ∨ 1 ≤ (0 : Int32).toNatClampNeg) by decide), fun f ef => by rw [ef]; exact h1 j hj ej⟩)
